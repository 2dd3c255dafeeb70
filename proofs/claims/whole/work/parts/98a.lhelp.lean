set_option maxHeartbeats 4000000 in
set_option maxRecDepth 100000 in
theorem k_L_reset (l : Launch) (dC : Nat → ClassId) (dI : Nat → Nat → Nat) (cI cJ cZ cII cJJ : ClassId) (R : Nat → Nat) (o : Nat) (v : Int32) (u0 : sgH) (w : Nat → Int64) (po : Int32 → sgH → Prop) (px : String → sgH → Prop) (hC : cxI l (dC, dI) (tyL cI cJ cZ cII cJJ) (HW cI cJ cII cJJ R) yX7_reset wsX7_reset (6, 110) 2 [.ref (R 0), .int v] u0 po px) (hpx : ∀ E u, px E u → E = nIA) : cxI l (dC, dI) (tyL cI cJ cZ cII cJJ) (LW cI cJ cII cJJ R o) yL_reset wsL_reset (7, 150) 2 [.ref (R 0), .int v, .ref o] (u0, w) (fun r u => (r = 0 ∧ ∃ r' : Int32, po r' u.1 ∧ u.2 0 = r'.toInt64) ∨ (r = 1 ∧ px nIA u.1)) (fun _ _ => False) := by
  refine cxW_intro (cc := cL_reset) (maxL := 4) (by decide) rfl (Nat.le_of_ble_eq_true rfl) ?_
  intro p e s m below meth c ls Aa Q F htab hK hN hX hP hD hS hA hl hret
  have hx := F.1
  have hb := F.2.1
  have hown : s.vm.findClass RL = some m.cls := F.2.2.2.1
  have hts := F.2.2.2.2
  have hl : lv_has ls 4 [(0, .ref (R 0)), (1, .int v), (2, .ref o)] := hl
  refine lv_aload_n hx hb dL_reset_0 rfl (lv_at hl 2 rfl) ?_
  refine lv_iconst (v := 0) hx hb dL_reset_1 (by decide) ?_
  refine lv_aload_n hx hb dL_reset_2 rfl (lv_at hl 0 rfl) ?_
  refine lv_iload_n hx hb dL_reset_3 rfl (lv_at hl 1 rfl) ?_
  refine fx_calli (wr := [(o, aJ cJ 1 w)]) hP hD hS hA (vx_runV (As := [.int v]) (rest := [.int 0, .ref o]) F (hC _) (cwV 1 hts gL_reset_X7_reset rfl rfl rfl (by decide +kernel) ⟨(Nat.le_of_ble_eq_true rfl), (Nat.le_of_ble_eq_true rfl)⟩) (cx_preV 0 7 hK hN hX hS hA (P_l hP) (D_l hD) rfl rfl) rfl rfl hl.1 rfl (lv_room (Nat.le_of_ble_eq_true rfl)) dL_reset_4 ⟨(Nat.le_of_ble_eq_true rfl), (Nat.le_of_ble_eq_true rfl)⟩) (fun E9 ce9 q9 u9 H9 locs9 a1 a2 a3 a4 a5 a6 a7 => ?_) (fun r7 u7 H locs w7 hP hD hS => ?_)
  · rcases hpx E9 u9 a4 with rfl
    refine vx_catch (own := RL) (name := nIA) hown [] ⟨0, 9, 12, 13⟩ [] (htab.trans rfl) (fun _ hz => nomatch hz) rfl (by decide) (hts (.classLink RL 13 nIA) (by decide +kernel)) (va_Nw.use rfl (hX.1.2.1 (nIA, nIA) (by decide +kernel))) a1 a2 a3 ?_
    refine lv_astore_n (lv' := [(3, .ref q9), (0, .ref (R 0)), (1, .int v), (2, .ref o)]) hx hb dL_reset_12 rfl hl (by decide) rfl (fun ls hl => ?_)
    refine lv_iconst (v := 1) hx hb dL_reset_13 (by decide) ?_
    exact hret 14 ls H9 locs9 1 (u9, w) _ _ (Nat.le_of_ble_eq_true rfl) (Nat.le_of_ble_eq_true rfl) dL_reset_14 rfl (.inr (⟨rfl, a4⟩)) a5 a6 a7
  · -- it returned
    refine lv_i2l hx hb dL_reset_7 rfl ?_
    refine lv_topl (fun x7 ex7 => ?_)
    have h8 : vp_in 0 1 := vp_in_nI (n := 0) (N := 1) (by decide) (by decide)
    refine va_last hx hb hK hP hD hS 55 1 rfl rfl h8 dL_reset_8 (fun H locs hP hD hS => ?_)
    have hP : va_P (dC, dI) vwCl (LW cI cJ cII cJJ R o (u7, vp_updL w 0 x7)) H := hP
    have hD : va_D Aa (LW cI cJ cII cJJ R o (u7, vp_updL w 0 x7)) := hD
    refine lv_goto (tgt := 15) hx hb dL_reset_9 (by decide) ?_
    refine lv_iconst (v := 0) hx hb dL_reset_15 (by decide) ?_
    exact hret 16 ls H locs 0 (u7, vp_updL w 0 x7) _ _ (Nat.le_of_ble_eq_true rfl) (Nat.le_of_ble_eq_true rfl) dL_reset_16 rfl (.inl ⟨rfl, r7, w7, by rw [← ex7]; exact (pk_uLs : vp_updL w 0 x7 0 = _)⟩) hP hD hS
set_option maxHeartbeats 4000000 in
set_option maxRecDepth 100000 in
theorem k_L_edge (l : Launch) (dC : Nat → ClassId) (dI : Nat → Nat → Nat) (cI cJ cZ cII cJJ : ClassId) (R : Nat → Nat) (o : Nat) (a : Int32) (b : Int32) (c0 : Int32) (u0 : sgH) (w : Nat → Int64) (po : Int32 → sgH → Prop) (px : String → sgH → Prop) (hC : cxI l (dC, dI) (tyL cI cJ cZ cII cJJ) (HW cI cJ cII cJJ R) yX7_edge wsX7_edge (6, 170) 2 [.ref (R 0), .int a, .int b, .int c0] u0 po px) (hpx : ∀ E u, px E u → E = nIA ∨ E = nIS) : cxI l (dC, dI) (tyL cI cJ cZ cII cJJ) (LW cI cJ cII cJJ R o) yL_edge wsL_edge (7, 210) 2 [.ref (R 0), .int a, .int b, .int c0, .ref o] (u0, w) (fun r u => (r = 0 ∧ ∃ r' : Int32, po r' u.1 ∧ u.2 0 = r'.toInt64) ∨ (r = 1 ∧ px nIA u.1) ∨ (r = 2 ∧ px nIS u.1)) (fun _ _ => False) := by
  refine cxW_intro (cc := cL_edge) (maxL := 6) (by decide) rfl (Nat.le_of_ble_eq_true rfl) ?_
  intro p e s m below meth c ls Aa Q F htab hK hN hX hP hD hS hA hl hret
  have hx := F.1
  have hb := F.2.1
  have hown : s.vm.findClass RL = some m.cls := F.2.2.2.1
  have hts := F.2.2.2.2
  have hl : lv_has ls 6 [(0, .ref (R 0)), (1, .int a), (2, .int b), (3, .int c0), (4, .ref o)] := hl
  refine lv_aload hx hb dL_edge_0 (lv_at hl 4 rfl) ?_
  refine lv_iconst (v := 0) hx hb dL_edge_2 (by decide) ?_
  refine lv_aload_n hx hb dL_edge_3 rfl (lv_at hl 0 rfl) ?_
  refine lv_iload_n hx hb dL_edge_4 rfl (lv_at hl 1 rfl) ?_
  refine lv_iload_n hx hb dL_edge_5 rfl (lv_at hl 2 rfl) ?_
  refine lv_iload_n hx hb dL_edge_6 rfl (lv_at hl 3 rfl) ?_
  refine fx_calli (wr := [(o, aJ cJ 1 w)]) hP hD hS hA (vx_runV (As := [.int a, .int b, .int c0]) (rest := [.int 0, .ref o]) F (hC _) (cwV 3 hts gL_edge_X7_edge rfl rfl rfl (by decide +kernel) ⟨(Nat.le_of_ble_eq_true rfl), (Nat.le_of_ble_eq_true rfl)⟩) (cx_preV 0 7 hK hN hX hS hA (P_l hP) (D_l hD) rfl rfl) rfl rfl hl.1 rfl (lv_room (Nat.le_of_ble_eq_true rfl)) dL_edge_7 ⟨(Nat.le_of_ble_eq_true rfl), (Nat.le_of_ble_eq_true rfl)⟩) (fun E9 ce9 q9 u9 H9 locs9 a1 a2 a3 a4 a5 a6 a7 => ?_) (fun r7 u7 H locs w7 hP hD hS => ?_)
  · rcases hpx E9 u9 a4 with rfl | rfl
    · refine vx_catch (own := RL) (name := nIA) hown [] ⟨0, 12, 15, 13⟩ [⟨0, 12, 19, 19⟩] (htab.trans rfl) (fun _ hz => nomatch hz) rfl (by decide) (hts (.classLink RL 13 nIA) (by decide +kernel)) (va_Nw.use rfl (hX.1.2.1 (nIA, nIA) (by decide +kernel))) a1 a2 a3 ?_
      refine lv_astore (lv' := [(5, .ref q9), (0, .ref (R 0)), (1, .int a), (2, .int b), (3, .int c0), (4, .ref o)]) hx hb dL_edge_15 hl (by decide) rfl (fun ls hl => ?_)
      refine lv_iconst (v := 1) hx hb dL_edge_17 (by decide) ?_
      exact hret 18 ls H9 locs9 1 (u9, w) _ _ (Nat.le_of_ble_eq_true rfl) (Nat.le_of_ble_eq_true rfl) dL_edge_18 rfl (.inr (.inl ⟨rfl, a4⟩)) a5 a6 a7
    · refine vx_catch (own := RL) (name := nIS) hown [⟨0, 12, 15, 13⟩] ⟨0, 12, 19, 19⟩ [] (htab.trans rfl) (fun z hz => by rcases List.mem_cons.mp hz with rfl | hz; exact .inr ⟨by decide, nIA, hts (.classLink RL 13 nIA) (by decide +kernel), hX.1.2.2.1 (nIS, nIA) (by decide +kernel)⟩; cases hz) rfl (by decide) (hts (.classLink RL 19 nIS) (by decide +kernel)) (va_Nw.use rfl (hX.1.2.1 (nIS, nIS) (by decide +kernel))) a1 a2 a3 ?_
      refine lv_astore (lv' := [(5, .ref q9), (0, .ref (R 0)), (1, .int a), (2, .int b), (3, .int c0), (4, .ref o)]) hx hb dL_edge_19 hl (by decide) rfl (fun ls hl => ?_)
      refine lv_iconst (v := 2) hx hb dL_edge_21 (by decide) ?_
      exact hret 22 ls H9 locs9 2 (u9, w) _ _ (Nat.le_of_ble_eq_true rfl) (Nat.le_of_ble_eq_true rfl) dL_edge_22 rfl (.inr (.inr (⟨rfl, a4⟩))) a5 a6 a7
  · -- it returned
    refine lv_i2l hx hb dL_edge_10 rfl ?_
    refine lv_topl (fun x7 ex7 => ?_)
    have h8 : vp_in 0 1 := vp_in_nI (n := 0) (N := 1) (by decide) (by decide)
    refine va_last hx hb hK hP hD hS 55 1 rfl rfl h8 dL_edge_11 (fun H locs hP hD hS => ?_)
    have hP : va_P (dC, dI) vwCl (LW cI cJ cII cJJ R o (u7, vp_updL w 0 x7)) H := hP
    have hD : va_D Aa (LW cI cJ cII cJJ R o (u7, vp_updL w 0 x7)) := hD
    refine lv_goto (tgt := 23) hx hb dL_edge_12 (by decide) ?_
    refine lv_iconst (v := 0) hx hb dL_edge_23 (by decide) ?_
    exact hret 24 ls H locs 0 (u7, vp_updL w 0 x7) _ _ (Nat.le_of_ble_eq_true rfl) (Nat.le_of_ble_eq_true rfl) dL_edge_24 rfl (.inl ⟨rfl, r7, w7, by rw [← ex7]; exact (pk_uLs : vp_updL w 0 x7 0 = _)⟩) hP hD hS
set_option maxHeartbeats 4000000 in
set_option maxRecDepth 100000 in
theorem k_L_drop (l : Launch) (dC : Nat → ClassId) (dI : Nat → Nat → Nat) (cI cJ cZ cII cJJ : ClassId) (R : Nat → Nat) (o : Nat)  (u0 : sgH) (w : Nat → Int64) (po : Int32 → sgH → Prop) (px : String → sgH → Prop) (hC : cxI l (dC, dI) (tyL cI cJ cZ cII cJJ) (HW cI cJ cII cJJ R) yX7_drop wsX7_drop (6, 110) 2 [.ref (R 0)] u0 po px) (hpx : ∀ E u, px E u → E = nIS) : cxI l (dC, dI) (tyL cI cJ cZ cII cJJ) (LW cI cJ cII cJJ R o) yL_drop wsL_drop (7, 150) 2 [.ref (R 0), .ref o] (u0, w) (fun r u => (r = 0 ∧ ∃ r' : Int32, po r' u.1 ∧ u.2 0 = r'.toInt64) ∨ (r = 1 ∧ px nIS u.1)) (fun _ _ => False) := by
  refine cxW_intro (cc := cL_drop) (maxL := 3) (by decide) rfl (Nat.le_of_ble_eq_true rfl) ?_
  intro p e s m below meth c ls Aa Q F htab hK hN hX hP hD hS hA hl hret
  have hx := F.1
  have hb := F.2.1
  have hown : s.vm.findClass RL = some m.cls := F.2.2.2.1
  have hts := F.2.2.2.2
  have hl : lv_has ls 3 [(0, .ref (R 0)), (1, .ref o)] := hl
  refine lv_aload_n hx hb dL_drop_0 rfl (lv_at hl 1 rfl) ?_
  refine lv_iconst (v := 0) hx hb dL_drop_1 (by decide) ?_
  refine lv_aload_n hx hb dL_drop_2 rfl (lv_at hl 0 rfl) ?_
  refine fx_calli (wr := [(o, aJ cJ 1 w)]) hP hD hS hA (vx_runV (As := []) (rest := [.int 0, .ref o]) F (hC _) (cwV 0 hts gL_drop_X7_drop rfl rfl rfl (by decide +kernel) ⟨(Nat.le_of_ble_eq_true rfl), (Nat.le_of_ble_eq_true rfl)⟩) (cx_preV 0 7 hK hN hX hS hA (P_l hP) (D_l hD) rfl rfl) rfl rfl hl.1 rfl (lv_room (Nat.le_of_ble_eq_true rfl)) dL_drop_3 ⟨(Nat.le_of_ble_eq_true rfl), (Nat.le_of_ble_eq_true rfl)⟩) (fun E9 ce9 q9 u9 H9 locs9 a1 a2 a3 a4 a5 a6 a7 => ?_) (fun r7 u7 H locs w7 hP hD hS => ?_)
  · rcases hpx E9 u9 a4 with rfl
    refine vx_catch (own := RL) (name := nIS) hown [] ⟨0, 8, 11, 19⟩ [] (htab.trans rfl) (fun _ hz => nomatch hz) rfl (by decide) (hts (.classLink RL 19 nIS) (by decide +kernel)) (va_Nw.use rfl (hX.1.2.1 (nIS, nIS) (by decide +kernel))) a1 a2 a3 ?_
    refine lv_astore_n (lv' := [(2, .ref q9), (0, .ref (R 0)), (1, .ref o)]) hx hb dL_drop_11 rfl hl (by decide) rfl (fun ls hl => ?_)
    refine lv_iconst (v := 1) hx hb dL_drop_12 (by decide) ?_
    exact hret 13 ls H9 locs9 1 (u9, w) _ _ (Nat.le_of_ble_eq_true rfl) (Nat.le_of_ble_eq_true rfl) dL_drop_13 rfl (.inr (⟨rfl, a4⟩)) a5 a6 a7
  · -- it returned
    refine lv_i2l hx hb dL_drop_6 rfl ?_
    refine lv_topl (fun x7 ex7 => ?_)
    have h8 : vp_in 0 1 := vp_in_nI (n := 0) (N := 1) (by decide) (by decide)
    refine va_last hx hb hK hP hD hS 55 1 rfl rfl h8 dL_drop_7 (fun H locs hP hD hS => ?_)
    have hP : va_P (dC, dI) vwCl (LW cI cJ cII cJJ R o (u7, vp_updL w 0 x7)) H := hP
    have hD : va_D Aa (LW cI cJ cII cJJ R o (u7, vp_updL w 0 x7)) := hD
    refine lv_goto (tgt := 14) hx hb dL_drop_8 (by decide) ?_
    refine lv_iconst (v := 0) hx hb dL_drop_14 (by decide) ?_
    exact hret 15 ls H locs 0 (u7, vp_updL w 0 x7) _ _ (Nat.le_of_ble_eq_true rfl) (Nat.le_of_ble_eq_true rfl) dL_drop_15 rfl (.inl ⟨rfl, r7, w7, by rw [← ex7]; exact (pk_uLs : vp_updL w 0 x7 0 = _)⟩) hP hD hS
set_option maxHeartbeats 4000000 in
set_option maxRecDepth 100000 in
theorem k_L_forests (l : Launch) (dC : Nat → ClassId) (dI : Nat → Nat → Nat) (cI cJ cZ cII cJJ : ClassId) (R : Nat → Nat) (o : Nat) (z : Int64) (u0 : sgH) (w : Nat → Int64) (po : Int64 → sgH → Prop) (px : String → sgH → Prop) (hC : cxL l (dC, dI) (tyL cI cJ cZ cII cJJ) (HW cI cJ cII cJJ R) yX7_forests wsX7_forests (7, 170) 2 [.ref (R 0), .long z] u0 po px) (hpx : ∀ E u, px E u → E = nIA) : cxI l (dC, dI) (tyL cI cJ cZ cII cJJ) (LW cI cJ cII cJJ R o) yL_forests wsL_forests (8, 210) 2 [.ref (R 0), .long z, .ref o] (u0, w) (fun r u => (r = 0 ∧ ∃ r' : Int64, po r' u.1 ∧ u.2 0 = r') ∨ (r = 1 ∧ px nIA u.1)) (fun _ _ => False) := by
  refine cxW_intro (cc := cL_forests) (maxL := 5) (by decide) rfl (Nat.le_of_ble_eq_true rfl) ?_
  intro p e s m below meth c ls Aa Q F htab hK hN hX hP hD hS hA hl hret
  have hx := F.1
  have hb := F.2.1
  have hown : s.vm.findClass RL = some m.cls := F.2.2.2.1
  have hts := F.2.2.2.2
  have hl : lv_has ls 5 [(0, .ref (R 0)), (1, .long z), (3, .ref o)] := hl
  refine lv_aload_n hx hb dL_forests_0 rfl (lv_at hl 2 rfl) ?_
  refine lv_iconst (v := 0) hx hb dL_forests_1 (by decide) ?_
  refine lv_aload_n hx hb dL_forests_2 rfl (lv_at hl 0 rfl) ?_
  refine lv_lload_n hx hb dL_forests_3 rfl (lv_at hl 1 rfl) ?_
  refine fx_calll (wr := [(o, aJ cJ 1 w)]) hP hD hS hA (vx_runV (As := [.long z]) (rest := [.int 0, .ref o]) F (hC _) (cwV 1 hts gL_forests_X7_forests rfl rfl rfl (by decide +kernel) ⟨(Nat.le_of_ble_eq_true rfl), (Nat.le_of_ble_eq_true rfl)⟩) (cx_preV 0 7 hK hN hX hS hA (P_l hP) (D_l hD) rfl rfl) rfl rfl hl.1 rfl (lv_room (Nat.le_of_ble_eq_true rfl)) dL_forests_4 ⟨(Nat.le_of_ble_eq_true rfl), (Nat.le_of_ble_eq_true rfl)⟩) (fun E9 ce9 q9 u9 H9 locs9 a1 a2 a3 a4 a5 a6 a7 => ?_) (fun r7 u7 H locs w7 hP hD hS => ?_)
  · rcases hpx E9 u9 a4 with rfl
    refine vx_catch (own := RL) (name := nIA) hown [] ⟨0, 8, 11, 13⟩ [] (htab.trans rfl) (fun _ hz => nomatch hz) rfl (by decide) (hts (.classLink RL 13 nIA) (by decide +kernel)) (va_Nw.use rfl (hX.1.2.1 (nIA, nIA) (by decide +kernel))) a1 a2 a3 ?_
    refine lv_astore (lv' := [(4, .ref q9), (0, .ref (R 0)), (1, .long z), (3, .ref o)]) hx hb dL_forests_11 hl (by decide) rfl (fun ls hl => ?_)
    refine lv_iconst (v := 1) hx hb dL_forests_13 (by decide) ?_
    exact hret 14 ls H9 locs9 1 (u9, w) _ _ (Nat.le_of_ble_eq_true rfl) (Nat.le_of_ble_eq_true rfl) dL_forests_14 rfl (.inr (⟨rfl, a4⟩)) a5 a6 a7
  · -- it returned
    have h8 : vp_in 0 1 := vp_in_nI (n := 0) (N := 1) (by decide) (by decide)
    refine va_last hx hb hK hP hD hS 55 1 rfl rfl h8 dL_forests_7 (fun H locs hP hD hS => ?_)
    have hP : va_P (dC, dI) vwCl (LW cI cJ cII cJJ R o (u7, vp_updL w 0 r7)) H := hP
    have hD : va_D Aa (LW cI cJ cII cJJ R o (u7, vp_updL w 0 r7)) := hD
    refine lv_goto (tgt := 15) hx hb dL_forests_8 (by decide) ?_
    refine lv_iconst (v := 0) hx hb dL_forests_15 (by decide) ?_
    exact hret 16 ls H locs 0 (u7, vp_updL w 0 r7) _ _ (Nat.le_of_ble_eq_true rfl) (Nat.le_of_ble_eq_true rfl) dL_forests_16 rfl (.inl ⟨rfl, r7, w7, (pk_uLs : vp_updL w 0 r7 0 = _)⟩) hP hD hS
set_option maxHeartbeats 4000000 in
set_option maxRecDepth 100000 in
theorem k_L_lightest (l : Launch) (dC : Nat → ClassId) (dI : Nat → Nat → Nat) (cI cJ cZ cII cJJ : ClassId) (R : Nat → Nat) (o : Nat) (z : Int64) (u0 : sgH) (w : Nat → Int64) (po : Int64 → sgH → Prop) (px : String → sgH → Prop) (hC : cxL l (dC, dI) (tyL cI cJ cZ cII cJJ) (HW cI cJ cII cJJ R) yX7_lightest wsX7_lightest (7, 170) 2 [.ref (R 0), .long z] u0 po px) (hpx : ∀ E u, px E u → E = nIA) : cxI l (dC, dI) (tyL cI cJ cZ cII cJJ) (LW cI cJ cII cJJ R o) yL_lightest wsL_lightest (8, 210) 2 [.ref (R 0), .long z, .ref o] (u0, w) (fun r u => (r = 0 ∧ ∃ r' : Int64, po r' u.1 ∧ u.2 0 = r') ∨ (r = 1 ∧ px nIA u.1)) (fun _ _ => False) := by
  refine cxW_intro (cc := cL_lightest) (maxL := 5) (by decide) rfl (Nat.le_of_ble_eq_true rfl) ?_
  intro p e s m below meth c ls Aa Q F htab hK hN hX hP hD hS hA hl hret
  have hx := F.1
  have hb := F.2.1
  have hown : s.vm.findClass RL = some m.cls := F.2.2.2.1
  have hts := F.2.2.2.2
  have hl : lv_has ls 5 [(0, .ref (R 0)), (1, .long z), (3, .ref o)] := hl
  refine lv_aload_n hx hb dL_lightest_0 rfl (lv_at hl 2 rfl) ?_
  refine lv_iconst (v := 0) hx hb dL_lightest_1 (by decide) ?_
  refine lv_aload_n hx hb dL_lightest_2 rfl (lv_at hl 0 rfl) ?_
  refine lv_lload_n hx hb dL_lightest_3 rfl (lv_at hl 1 rfl) ?_
  refine fx_calll (wr := [(o, aJ cJ 1 w)]) hP hD hS hA (vx_runV (As := [.long z]) (rest := [.int 0, .ref o]) F (hC _) (cwV 1 hts gL_lightest_X7_lightest rfl rfl rfl (by decide +kernel) ⟨(Nat.le_of_ble_eq_true rfl), (Nat.le_of_ble_eq_true rfl)⟩) (cx_preV 0 7 hK hN hX hS hA (P_l hP) (D_l hD) rfl rfl) rfl rfl hl.1 rfl (lv_room (Nat.le_of_ble_eq_true rfl)) dL_lightest_4 ⟨(Nat.le_of_ble_eq_true rfl), (Nat.le_of_ble_eq_true rfl)⟩) (fun E9 ce9 q9 u9 H9 locs9 a1 a2 a3 a4 a5 a6 a7 => ?_) (fun r7 u7 H locs w7 hP hD hS => ?_)
  · rcases hpx E9 u9 a4 with rfl
    refine vx_catch (own := RL) (name := nIA) hown [] ⟨0, 8, 11, 13⟩ [] (htab.trans rfl) (fun _ hz => nomatch hz) rfl (by decide) (hts (.classLink RL 13 nIA) (by decide +kernel)) (va_Nw.use rfl (hX.1.2.1 (nIA, nIA) (by decide +kernel))) a1 a2 a3 ?_
    refine lv_astore (lv' := [(4, .ref q9), (0, .ref (R 0)), (1, .long z), (3, .ref o)]) hx hb dL_lightest_11 hl (by decide) rfl (fun ls hl => ?_)
    refine lv_iconst (v := 1) hx hb dL_lightest_13 (by decide) ?_
    exact hret 14 ls H9 locs9 1 (u9, w) _ _ (Nat.le_of_ble_eq_true rfl) (Nat.le_of_ble_eq_true rfl) dL_lightest_14 rfl (.inr (⟨rfl, a4⟩)) a5 a6 a7
  · -- it returned
    have h8 : vp_in 0 1 := vp_in_nI (n := 0) (N := 1) (by decide) (by decide)
    refine va_last hx hb hK hP hD hS 55 1 rfl rfl h8 dL_lightest_7 (fun H locs hP hD hS => ?_)
    have hP : va_P (dC, dI) vwCl (LW cI cJ cII cJJ R o (u7, vp_updL w 0 r7)) H := hP
    have hD : va_D Aa (LW cI cJ cII cJJ R o (u7, vp_updL w 0 r7)) := hD
    refine lv_goto (tgt := 15) hx hb dL_lightest_8 (by decide) ?_
    refine lv_iconst (v := 0) hx hb dL_lightest_15 (by decide) ?_
    exact hret 16 ls H locs 0 (u7, vp_updL w 0 r7) _ _ (Nat.le_of_ble_eq_true rfl) (Nat.le_of_ble_eq_true rfl) dL_lightest_16 rfl (.inl ⟨rfl, r7, w7, (pk_uLs : vp_updL w 0 r7 0 = _)⟩) hP hD hS
set_option maxHeartbeats 4000000 in
set_option maxRecDepth 100000 in
theorem k_L_isCycle (l : Launch) (dC : Nat → ClassId) (dI : Nat → Nat → Nat) (cI cJ cZ cII cJJ : ClassId) (R : Nat → Nat) (o : Nat) (z : Int64) (u0 : sgH) (w : Nat → Int64) (po : Int32 → sgH → Prop) (px : String → sgH → Prop) (hC : cxI l (dC, dI) (tyL cI cJ cZ cII cJJ) (HW cI cJ cII cJJ R) yX7_isCycle wsX7_isCycle (7, 170) 2 [.ref (R 0), .long z] u0 po px) (hpx : ∀ E u, px E u → E = nIA) : cxI l (dC, dI) (tyL cI cJ cZ cII cJJ) (LW cI cJ cII cJJ R o) yL_isCycle wsL_isCycle (8, 210) 2 [.ref (R 0), .long z, .ref o] (u0, w) (fun r u => (r = 0 ∧ ∃ r' : Int32, po r' u.1 ∧ u.2 0 = r'.toInt64) ∨ (r = 1 ∧ px nIA u.1)) (fun _ _ => False) := by
  refine cxW_intro (cc := cL_isCycle) (maxL := 5) (by decide) rfl (Nat.le_of_ble_eq_true rfl) ?_
  intro p e s m below meth c ls Aa Q F htab hK hN hX hP hD hS hA hl hret
  have hx := F.1
  have hb := F.2.1
  have hown : s.vm.findClass RL = some m.cls := F.2.2.2.1
  have hts := F.2.2.2.2
  have hl : lv_has ls 5 [(0, .ref (R 0)), (1, .long z), (3, .ref o)] := hl
  refine lv_aload_n hx hb dL_isCycle_0 rfl (lv_at hl 2 rfl) ?_
  refine lv_iconst (v := 0) hx hb dL_isCycle_1 (by decide) ?_
  refine lv_aload_n hx hb dL_isCycle_2 rfl (lv_at hl 0 rfl) ?_
  refine lv_lload_n hx hb dL_isCycle_3 rfl (lv_at hl 1 rfl) ?_
  refine fx_calli (wr := [(o, aJ cJ 1 w)]) hP hD hS hA (vx_runV (As := [.long z]) (rest := [.int 0, .ref o]) F (hC _) (cwV 1 hts gL_isCycle_X7_isCycle rfl rfl rfl (by decide +kernel) ⟨(Nat.le_of_ble_eq_true rfl), (Nat.le_of_ble_eq_true rfl)⟩) (cx_preV 0 7 hK hN hX hS hA (P_l hP) (D_l hD) rfl rfl) rfl rfl hl.1 rfl (lv_room (Nat.le_of_ble_eq_true rfl)) dL_isCycle_4 ⟨(Nat.le_of_ble_eq_true rfl), (Nat.le_of_ble_eq_true rfl)⟩) (fun E9 ce9 q9 u9 H9 locs9 a1 a2 a3 a4 a5 a6 a7 => ?_) (fun r7 u7 H locs w7 hP hD hS => ?_)
  · rcases hpx E9 u9 a4 with rfl
    refine vx_catch (own := RL) (name := nIA) hown [] ⟨0, 9, 12, 13⟩ [] (htab.trans rfl) (fun _ hz => nomatch hz) rfl (by decide) (hts (.classLink RL 13 nIA) (by decide +kernel)) (va_Nw.use rfl (hX.1.2.1 (nIA, nIA) (by decide +kernel))) a1 a2 a3 ?_
    refine lv_astore (lv' := [(4, .ref q9), (0, .ref (R 0)), (1, .long z), (3, .ref o)]) hx hb dL_isCycle_12 hl (by decide) rfl (fun ls hl => ?_)
    refine lv_iconst (v := 1) hx hb dL_isCycle_14 (by decide) ?_
    exact hret 15 ls H9 locs9 1 (u9, w) _ _ (Nat.le_of_ble_eq_true rfl) (Nat.le_of_ble_eq_true rfl) dL_isCycle_15 rfl (.inr (⟨rfl, a4⟩)) a5 a6 a7
  · -- it returned
    refine lv_i2l hx hb dL_isCycle_7 rfl ?_
    refine lv_topl (fun x7 ex7 => ?_)
    have h8 : vp_in 0 1 := vp_in_nI (n := 0) (N := 1) (by decide) (by decide)
    refine va_last hx hb hK hP hD hS 55 1 rfl rfl h8 dL_isCycle_8 (fun H locs hP hD hS => ?_)
    have hP : va_P (dC, dI) vwCl (LW cI cJ cII cJJ R o (u7, vp_updL w 0 x7)) H := hP
    have hD : va_D Aa (LW cI cJ cII cJJ R o (u7, vp_updL w 0 x7)) := hD
    refine lv_goto (tgt := 16) hx hb dL_isCycle_9 (by decide) ?_
    refine lv_iconst (v := 0) hx hb dL_isCycle_16 (by decide) ?_
    exact hret 17 ls H locs 0 (u7, vp_updL w 0 x7) _ _ (Nat.le_of_ble_eq_true rfl) (Nat.le_of_ble_eq_true rfl) dL_isCycle_17 rfl (.inl ⟨rfl, r7, w7, by rw [← ex7]; exact (pk_uLs : vp_updL w 0 x7 0 = _)⟩) hP hD hS
set_option maxHeartbeats 4000000 in
set_option maxRecDepth 100000 in
theorem k_L_through (l : Launch) (dC : Nat → ClassId) (dI : Nat → Nat → Nat) (cI cJ cZ cII cJJ : ClassId) (R : Nat → Nat) (o : Nat) (v : Int32) (u0 : sgH) (w : Nat → Int64) (po : Int64 → sgH → Prop) (px : String → sgH → Prop) (hC : cxL l (dC, dI) (tyL cI cJ cZ cII cJJ) (HW cI cJ cII cJJ R) yX7_through wsX7_through (7, 170) 2 [.ref (R 0), .int v] u0 po px) (hpx : ∀ E u, px E u → E = nNE) : cxI l (dC, dI) (tyL cI cJ cZ cII cJJ) (LW cI cJ cII cJJ R o) yL_through wsL_through (8, 210) 2 [.ref (R 0), .int v, .ref o] (u0, w) (fun r u => (r = 0 ∧ ∃ r' : Int64, po r' u.1 ∧ u.2 0 = r') ∨ (r = 1 ∧ px nNE u.1)) (fun _ _ => False) := by
  refine cxW_intro (cc := cL_through) (maxL := 4) (by decide) rfl (Nat.le_of_ble_eq_true rfl) ?_
  intro p e s m below meth c ls Aa Q F htab hK hN hX hP hD hS hA hl hret
  have hx := F.1
  have hb := F.2.1
  have hown : s.vm.findClass RL = some m.cls := F.2.2.2.1
  have hts := F.2.2.2.2
  have hl : lv_has ls 4 [(0, .ref (R 0)), (1, .int v), (2, .ref o)] := hl
  refine lv_aload_n hx hb dL_through_0 rfl (lv_at hl 2 rfl) ?_
  refine lv_iconst (v := 0) hx hb dL_through_1 (by decide) ?_
  refine lv_aload_n hx hb dL_through_2 rfl (lv_at hl 0 rfl) ?_
  refine lv_iload_n hx hb dL_through_3 rfl (lv_at hl 1 rfl) ?_
  refine fx_calll (wr := [(o, aJ cJ 1 w)]) hP hD hS hA (vx_runV (As := [.int v]) (rest := [.int 0, .ref o]) F (hC _) (cwV 1 hts gL_through_X7_through rfl rfl rfl (by decide +kernel) ⟨(Nat.le_of_ble_eq_true rfl), (Nat.le_of_ble_eq_true rfl)⟩) (cx_preV 0 7 hK hN hX hS hA (P_l hP) (D_l hD) rfl rfl) rfl rfl hl.1 rfl (lv_room (Nat.le_of_ble_eq_true rfl)) dL_through_4 ⟨(Nat.le_of_ble_eq_true rfl), (Nat.le_of_ble_eq_true rfl)⟩) (fun E9 ce9 q9 u9 H9 locs9 a1 a2 a3 a4 a5 a6 a7 => ?_) (fun r7 u7 H locs w7 hP hD hS => ?_)
  · rcases hpx E9 u9 a4 with rfl
    refine vx_catch (own := RL) (name := nNE) hown [] ⟨0, 8, 11, 40⟩ [] (htab.trans rfl) (fun _ hz => nomatch hz) rfl (by decide) (hts (.classLink RL 40 nNE) (by decide +kernel)) (va_Nw.use rfl (hX.1.2.1 (nNE, nNE) (by decide +kernel))) a1 a2 a3 ?_
    refine lv_astore_n (lv' := [(3, .ref q9), (0, .ref (R 0)), (1, .int v), (2, .ref o)]) hx hb dL_through_11 rfl hl (by decide) rfl (fun ls hl => ?_)
    refine lv_iconst (v := 1) hx hb dL_through_12 (by decide) ?_
    exact hret 13 ls H9 locs9 1 (u9, w) _ _ (Nat.le_of_ble_eq_true rfl) (Nat.le_of_ble_eq_true rfl) dL_through_13 rfl (.inr (⟨rfl, a4⟩)) a5 a6 a7
  · -- it returned
    have h8 : vp_in 0 1 := vp_in_nI (n := 0) (N := 1) (by decide) (by decide)
    refine va_last hx hb hK hP hD hS 55 1 rfl rfl h8 dL_through_7 (fun H locs hP hD hS => ?_)
    have hP : va_P (dC, dI) vwCl (LW cI cJ cII cJJ R o (u7, vp_updL w 0 r7)) H := hP
    have hD : va_D Aa (LW cI cJ cII cJJ R o (u7, vp_updL w 0 r7)) := hD
    refine lv_goto (tgt := 14) hx hb dL_through_8 (by decide) ?_
    refine lv_iconst (v := 0) hx hb dL_through_14 (by decide) ?_
    exact hret 15 ls H locs 0 (u7, vp_updL w 0 r7) _ _ (Nat.le_of_ble_eq_true rfl) (Nat.le_of_ble_eq_true rfl) dL_through_15 rfl (.inl ⟨rfl, r7, w7, (pk_uLs : vp_updL w 0 r7 0 = _)⟩) hP hD hS
set_option maxHeartbeats 4000000 in
set_option maxRecDepth 100000 in
theorem k_L_basis (l : Launch) (dC : Nat → ClassId) (dI : Nat → Nat → Nat) (cI cJ cZ cII cJJ : ClassId) (R : Nat → Nat) (o : Nat) (v : Int32) (u0 : sgH) (w : Nat → Int64) (po : Int64 → sgH → Prop) (px : String → sgH → Prop) (hC : cxL l (dC, dI) (tyL cI cJ cZ cII cJJ) (HW cI cJ cII cJJ R) yX7_basis wsX7_basis (7, 200) 2 [.ref (R 0), .int v] u0 po px) (hpx : ∀ E u, px E u → E = nNE) : cxI l (dC, dI) (tyL cI cJ cZ cII cJJ) (LW cI cJ cII cJJ R o) yL_basis wsL_basis (8, 240) 2 [.ref (R 0), .int v, .ref o] (u0, w) (fun r u => (r = 0 ∧ ∃ r' : Int64, po r' u.1 ∧ u.2 0 = r') ∨ (r = 1 ∧ px nNE u.1)) (fun _ _ => False) := by
  refine cxW_intro (cc := cL_basis) (maxL := 4) (by decide) rfl (Nat.le_of_ble_eq_true rfl) ?_
  intro p e s m below meth c ls Aa Q F htab hK hN hX hP hD hS hA hl hret
  have hx := F.1
  have hb := F.2.1
  have hown : s.vm.findClass RL = some m.cls := F.2.2.2.1
  have hts := F.2.2.2.2
  have hl : lv_has ls 4 [(0, .ref (R 0)), (1, .int v), (2, .ref o)] := hl
  refine lv_aload_n hx hb dL_basis_0 rfl (lv_at hl 2 rfl) ?_
  refine lv_iconst (v := 0) hx hb dL_basis_1 (by decide) ?_
  refine lv_aload_n hx hb dL_basis_2 rfl (lv_at hl 0 rfl) ?_
  refine lv_iload_n hx hb dL_basis_3 rfl (lv_at hl 1 rfl) ?_
  refine fx_calll (wr := [(o, aJ cJ 1 w)]) hP hD hS hA (vx_runV (As := [.int v]) (rest := [.int 0, .ref o]) F (hC _) (cwV 1 hts gL_basis_X7_basis rfl rfl rfl (by decide +kernel) ⟨(Nat.le_of_ble_eq_true rfl), (Nat.le_of_ble_eq_true rfl)⟩) (cx_preV 0 7 hK hN hX hS hA (P_l hP) (D_l hD) rfl rfl) rfl rfl hl.1 rfl (lv_room (Nat.le_of_ble_eq_true rfl)) dL_basis_4 ⟨(Nat.le_of_ble_eq_true rfl), (Nat.le_of_ble_eq_true rfl)⟩) (fun E9 ce9 q9 u9 H9 locs9 a1 a2 a3 a4 a5 a6 a7 => ?_) (fun r7 u7 H locs w7 hP hD hS => ?_)
  · rcases hpx E9 u9 a4 with rfl
    refine vx_catch (own := RL) (name := nNE) hown [] ⟨0, 8, 11, 40⟩ [] (htab.trans rfl) (fun _ hz => nomatch hz) rfl (by decide) (hts (.classLink RL 40 nNE) (by decide +kernel)) (va_Nw.use rfl (hX.1.2.1 (nNE, nNE) (by decide +kernel))) a1 a2 a3 ?_
    refine lv_astore_n (lv' := [(3, .ref q9), (0, .ref (R 0)), (1, .int v), (2, .ref o)]) hx hb dL_basis_11 rfl hl (by decide) rfl (fun ls hl => ?_)
    refine lv_iconst (v := 1) hx hb dL_basis_12 (by decide) ?_
    exact hret 13 ls H9 locs9 1 (u9, w) _ _ (Nat.le_of_ble_eq_true rfl) (Nat.le_of_ble_eq_true rfl) dL_basis_13 rfl (.inr (⟨rfl, a4⟩)) a5 a6 a7
  · -- it returned
    have h8 : vp_in 0 1 := vp_in_nI (n := 0) (N := 1) (by decide) (by decide)
    refine va_last hx hb hK hP hD hS 55 1 rfl rfl h8 dL_basis_7 (fun H locs hP hD hS => ?_)
    have hP : va_P (dC, dI) vwCl (LW cI cJ cII cJJ R o (u7, vp_updL w 0 r7)) H := hP
    have hD : va_D Aa (LW cI cJ cII cJJ R o (u7, vp_updL w 0 r7)) := hD
    refine lv_goto (tgt := 14) hx hb dL_basis_8 (by decide) ?_
    refine lv_iconst (v := 0) hx hb dL_basis_14 (by decide) ?_
    exact hret 15 ls H locs 0 (u7, vp_updL w 0 r7) _ _ (Nat.le_of_ble_eq_true rfl) (Nat.le_of_ble_eq_true rfl) dL_basis_15 rfl (.inl ⟨rfl, r7, w7, (pk_uLs : vp_updL w 0 r7 0 = _)⟩) hP hD hS
set_option maxHeartbeats 4000000 in
set_option maxRecDepth 100000 in
theorem k_L_belongs (l : Launch) (dC : Nat → ClassId) (dI : Nat → Nat → Nat) (cI cJ cZ cII cJJ : ClassId) (R : Nat → Nat) (o : Nat) (z : Int64) (u0 : sgH) (w : Nat → Int64) (po : Int32 → sgH → Prop) (px : String → sgH → Prop) (hC : cxI l (dC, dI) (tyL cI cJ cZ cII cJJ) (HW cI cJ cII cJJ R) yX7_belongs wsX7_belongs (7, 200) 2 [.ref (R 0), .long z] u0 po px) (hpx : ∀ E u, px E u → E = nIA) : cxI l (dC, dI) (tyL cI cJ cZ cII cJJ) (LW cI cJ cII cJJ R o) yL_belongs wsL_belongs (8, 240) 2 [.ref (R 0), .long z, .ref o] (u0, w) (fun r u => (r = 0 ∧ ∃ r' : Int32, po r' u.1 ∧ u.2 0 = (if r' = 0 then 0 else 1)) ∨ (r = 1 ∧ px nIA u.1)) (fun _ _ => False) := by
  refine cxW_intro (cc := cL_belongs) (maxL := 5) (by decide) rfl (Nat.le_of_ble_eq_true rfl) ?_
  intro p e s m below meth c ls Aa Q F htab hK hN hX hP hD hS hA hl hret
  have hx := F.1
  have hb := F.2.1
  have hown : s.vm.findClass RL = some m.cls := F.2.2.2.1
  have hts := F.2.2.2.2
  have hl : lv_has ls 5 [(0, .ref (R 0)), (1, .long z), (3, .ref o)] := hl
  refine lv_aload_n hx hb dL_belongs_0 rfl (lv_at hl 2 rfl) ?_
  refine lv_iconst (v := 0) hx hb dL_belongs_1 (by decide) ?_
  refine lv_aload_n hx hb dL_belongs_2 rfl (lv_at hl 0 rfl) ?_
  refine lv_lload_n hx hb dL_belongs_3 rfl (lv_at hl 1 rfl) ?_
  refine fx_calli (wr := [(o, aJ cJ 1 w)]) hP hD hS hA (vx_runV (As := [.long z]) (rest := [.int 0, .ref o]) F (hC _) (cwV 1 hts gL_belongs_X7_belongs rfl rfl rfl (by decide +kernel) ⟨(Nat.le_of_ble_eq_true rfl), (Nat.le_of_ble_eq_true rfl)⟩) (cx_preV 0 7 hK hN hX hS hA (P_l hP) (D_l hD) rfl rfl) rfl rfl hl.1 rfl (lv_room (Nat.le_of_ble_eq_true rfl)) dL_belongs_4 ⟨(Nat.le_of_ble_eq_true rfl), (Nat.le_of_ble_eq_true rfl)⟩) (fun E9 ce9 q9 u9 H9 locs9 a1 a2 a3 a4 a5 a6 a7 => ?_) (fun r7 u7 H locs w7 hP hD hS => ?_)
  · rcases hpx E9 u9 a4 with rfl
    refine vx_catch (own := RL) (name := nIA) hown [] ⟨0, 16, 19, 13⟩ [] (htab.trans rfl) (fun _ hz => nomatch hz) rfl (by decide) (hts (.classLink RL 13 nIA) (by decide +kernel)) (va_Nw.use rfl (hX.1.2.1 (nIA, nIA) (by decide +kernel))) a1 a2 a3 ?_
    refine lv_astore (lv' := [(4, .ref q9), (0, .ref (R 0)), (1, .long z), (3, .ref o)]) hx hb dL_belongs_19 hl (by decide) rfl (fun ls hl => ?_)
    refine lv_iconst (v := 1) hx hb dL_belongs_21 (by decide) ?_
    exact hret 22 ls H9 locs9 1 (u9, w) _ _ (Nat.le_of_ble_eq_true rfl) (Nat.le_of_ble_eq_true rfl) dL_belongs_22 rfl (.inr (⟨rfl, a4⟩)) a5 a6 a7
  · -- it returned
    refine lv_if_eq (tgt := 14) hx hb dL_belongs_7 (by decide) (fun c7 => ?_) (fun c7 => ?_)
    · -- t
      refine lv_lconst (v := 0) hx hb dL_belongs_14 (by decide) ?_
      have h8 : vp_in 0 1 := vp_in_nI (n := 0) (N := 1) (by decide) (by decide)
      refine va_last hx hb hK hP hD hS 55 1 rfl rfl h8 dL_belongs_15 (fun H locs hP hD hS => ?_)
      have hP : va_P (dC, dI) vwCl (LW cI cJ cII cJJ R o (u7, vp_updL w 0 0)) H := hP
      have hD : va_D Aa (LW cI cJ cII cJJ R o (u7, vp_updL w 0 0)) := hD
      refine lv_goto (tgt := 23) hx hb dL_belongs_16 (by decide) ?_
      refine lv_iconst (v := 0) hx hb dL_belongs_23 (by decide) ?_
      exact hret 24 ls H locs 0 (u7, vp_updL w 0 0) _ _ (Nat.le_of_ble_eq_true rfl) (Nat.le_of_ble_eq_true rfl) dL_belongs_24 rfl (.inl ⟨rfl, r7, w7, by rw [if_pos c7]; exact (pk_uLs : vp_updL w 0 0 0 = _)⟩) hP hD hS
    · -- f
      refine lv_lconst (v := 1) hx hb dL_belongs_10 (by decide) ?_
      refine lv_goto (tgt := 15) hx hb dL_belongs_11 (by decide) ?_
      have h8 : vp_in 0 1 := vp_in_nI (n := 0) (N := 1) (by decide) (by decide)
      refine va_last hx hb hK hP hD hS 55 1 rfl rfl h8 dL_belongs_15 (fun H locs hP hD hS => ?_)
      have hP : va_P (dC, dI) vwCl (LW cI cJ cII cJJ R o (u7, vp_updL w 0 1)) H := hP
      have hD : va_D Aa (LW cI cJ cII cJJ R o (u7, vp_updL w 0 1)) := hD
      refine lv_goto (tgt := 23) hx hb dL_belongs_16 (by decide) ?_
      refine lv_iconst (v := 0) hx hb dL_belongs_23 (by decide) ?_
      exact hret 24 ls H locs 0 (u7, vp_updL w 0 1) _ _ (Nat.le_of_ble_eq_true rfl) (Nat.le_of_ble_eq_true rfl) dL_belongs_24 rfl (.inl ⟨rfl, r7, w7, by rw [if_neg c7]; exact (pk_uLs : vp_updL w 0 1 0 = _)⟩) hP hD hS
set_option maxHeartbeats 4000000 in
set_option maxRecDepth 100000 in
theorem k_L_add (l : Launch) (dC : Nat → ClassId) (dI : Nat → Nat → Nat) (cI cJ cZ cII cJJ : ClassId) (R : Nat → Nat) (o : Nat) (z : Int64) (u0 : sgH) (w : Nat → Int64) (po : Int32 → sgH → Prop) (px : String → sgH → Prop) (hC : cxI l (dC, dI) (tyL cI cJ cZ cII cJJ) (HW cI cJ cII cJJ R) yX7_add wsX7_add (7, 170) 2 [.ref (R 0), .long z] u0 po px) (hpx : ∀ E u, px E u → E = nIA ∨ E = nIS) : cxI l (dC, dI) (tyL cI cJ cZ cII cJJ) (LW cI cJ cII cJJ R o) yL_add wsL_add (8, 210) 2 [.ref (R 0), .long z, .ref o] (u0, w) (fun r u => (r = 0 ∧ ∃ r' : Int32, po r' u.1 ∧ u.2 0 = r'.toInt64) ∨ (r = 1 ∧ px nIA u.1) ∨ (r = 2 ∧ px nIS u.1)) (fun _ _ => False) := by
  refine cxW_intro (cc := cL_add) (maxL := 5) (by decide) rfl (Nat.le_of_ble_eq_true rfl) ?_
  intro p e s m below meth c ls Aa Q F htab hK hN hX hP hD hS hA hl hret
  have hx := F.1
  have hb := F.2.1
  have hown : s.vm.findClass RL = some m.cls := F.2.2.2.1
  have hts := F.2.2.2.2
  have hl : lv_has ls 5 [(0, .ref (R 0)), (1, .long z), (3, .ref o)] := hl
  refine lv_aload_n hx hb dL_add_0 rfl (lv_at hl 2 rfl) ?_
  refine lv_iconst (v := 0) hx hb dL_add_1 (by decide) ?_
  refine lv_aload_n hx hb dL_add_2 rfl (lv_at hl 0 rfl) ?_
  refine lv_lload_n hx hb dL_add_3 rfl (lv_at hl 1 rfl) ?_
  refine fx_calli (wr := [(o, aJ cJ 1 w)]) hP hD hS hA (vx_runV (As := [.long z]) (rest := [.int 0, .ref o]) F (hC _) (cwV 1 hts gL_add_X7_add rfl rfl rfl (by decide +kernel) ⟨(Nat.le_of_ble_eq_true rfl), (Nat.le_of_ble_eq_true rfl)⟩) (cx_preV 0 7 hK hN hX hS hA (P_l hP) (D_l hD) rfl rfl) rfl rfl hl.1 rfl (lv_room (Nat.le_of_ble_eq_true rfl)) dL_add_4 ⟨(Nat.le_of_ble_eq_true rfl), (Nat.le_of_ble_eq_true rfl)⟩) (fun E9 ce9 q9 u9 H9 locs9 a1 a2 a3 a4 a5 a6 a7 => ?_) (fun r7 u7 H locs w7 hP hD hS => ?_)
  · rcases hpx E9 u9 a4 with rfl | rfl
    · refine vx_catch (own := RL) (name := nIA) hown [] ⟨0, 9, 12, 13⟩ [⟨0, 9, 16, 19⟩] (htab.trans rfl) (fun _ hz => nomatch hz) rfl (by decide) (hts (.classLink RL 13 nIA) (by decide +kernel)) (va_Nw.use rfl (hX.1.2.1 (nIA, nIA) (by decide +kernel))) a1 a2 a3 ?_
      refine lv_astore (lv' := [(4, .ref q9), (0, .ref (R 0)), (1, .long z), (3, .ref o)]) hx hb dL_add_12 hl (by decide) rfl (fun ls hl => ?_)
      refine lv_iconst (v := 1) hx hb dL_add_14 (by decide) ?_
      exact hret 15 ls H9 locs9 1 (u9, w) _ _ (Nat.le_of_ble_eq_true rfl) (Nat.le_of_ble_eq_true rfl) dL_add_15 rfl (.inr (.inl ⟨rfl, a4⟩)) a5 a6 a7
    · refine vx_catch (own := RL) (name := nIS) hown [⟨0, 9, 12, 13⟩] ⟨0, 9, 16, 19⟩ [] (htab.trans rfl) (fun z hz => by rcases List.mem_cons.mp hz with rfl | hz; exact .inr ⟨by decide, nIA, hts (.classLink RL 13 nIA) (by decide +kernel), hX.1.2.2.1 (nIS, nIA) (by decide +kernel)⟩; cases hz) rfl (by decide) (hts (.classLink RL 19 nIS) (by decide +kernel)) (va_Nw.use rfl (hX.1.2.1 (nIS, nIS) (by decide +kernel))) a1 a2 a3 ?_
      refine lv_astore (lv' := [(4, .ref q9), (0, .ref (R 0)), (1, .long z), (3, .ref o)]) hx hb dL_add_16 hl (by decide) rfl (fun ls hl => ?_)
      refine lv_iconst (v := 2) hx hb dL_add_18 (by decide) ?_
      exact hret 19 ls H9 locs9 2 (u9, w) _ _ (Nat.le_of_ble_eq_true rfl) (Nat.le_of_ble_eq_true rfl) dL_add_19 rfl (.inr (.inr (⟨rfl, a4⟩))) a5 a6 a7
  · -- it returned
    refine lv_i2l hx hb dL_add_7 rfl ?_
    refine lv_topl (fun x7 ex7 => ?_)
    have h8 : vp_in 0 1 := vp_in_nI (n := 0) (N := 1) (by decide) (by decide)
    refine va_last hx hb hK hP hD hS 55 1 rfl rfl h8 dL_add_8 (fun H locs hP hD hS => ?_)
    have hP : va_P (dC, dI) vwCl (LW cI cJ cII cJJ R o (u7, vp_updL w 0 x7)) H := hP
    have hD : va_D Aa (LW cI cJ cII cJJ R o (u7, vp_updL w 0 x7)) := hD
    refine lv_goto (tgt := 20) hx hb dL_add_9 (by decide) ?_
    refine lv_iconst (v := 0) hx hb dL_add_20 (by decide) ?_
    exact hret 21 ls H locs 0 (u7, vp_updL w 0 x7) _ _ (Nat.le_of_ble_eq_true rfl) (Nat.le_of_ble_eq_true rfl) dL_add_21 rfl (.inl ⟨rfl, r7, w7, by rw [← ex7]; exact (pk_uLs : vp_updL w 0 x7 0 = _)⟩) hP hD hS
set_option maxHeartbeats 4000000 in
set_option maxRecDepth 100000 in
theorem k_L_spans (l : Launch) (dC : Nat → ClassId) (dI : Nat → Nat → Nat) (cI cJ cZ cII cJJ : ClassId) (R : Nat → Nat) (o : Nat) (z : Int64) (u0 : sgH) (w : Nat → Int64) (po : Int32 → sgH → Prop) (px : String → sgH → Prop) (hC : cxI l (dC, dI) (tyL cI cJ cZ cII cJJ) (HW cI cJ cII cJJ R) yX7_spans wsX7_spans (7, 170) 2 [.ref (R 0), .long z] u0 po px) (hpx : ∀ E u, px E u → E = nIA) : cxI l (dC, dI) (tyL cI cJ cZ cII cJJ) (LW cI cJ cII cJJ R o) yL_spans wsL_spans (8, 210) 2 [.ref (R 0), .long z, .ref o] (u0, w) (fun r u => (r = 0 ∧ ∃ r' : Int32, po r' u.1 ∧ u.2 0 = (if r' = 0 then 0 else 1)) ∨ (r = 1 ∧ px nIA u.1)) (fun _ _ => False) := by
  refine cxW_intro (cc := cL_spans) (maxL := 5) (by decide) rfl (Nat.le_of_ble_eq_true rfl) ?_
  intro p e s m below meth c ls Aa Q F htab hK hN hX hP hD hS hA hl hret
  have hx := F.1
  have hb := F.2.1
  have hown : s.vm.findClass RL = some m.cls := F.2.2.2.1
  have hts := F.2.2.2.2
  have hl : lv_has ls 5 [(0, .ref (R 0)), (1, .long z), (3, .ref o)] := hl
  refine lv_aload_n hx hb dL_spans_0 rfl (lv_at hl 2 rfl) ?_
  refine lv_iconst (v := 0) hx hb dL_spans_1 (by decide) ?_
  refine lv_aload_n hx hb dL_spans_2 rfl (lv_at hl 0 rfl) ?_
  refine lv_lload_n hx hb dL_spans_3 rfl (lv_at hl 1 rfl) ?_
  refine fx_calli (wr := [(o, aJ cJ 1 w)]) hP hD hS hA (vx_runV (As := [.long z]) (rest := [.int 0, .ref o]) F (hC _) (cwV 1 hts gL_spans_X7_spans rfl rfl rfl (by decide +kernel) ⟨(Nat.le_of_ble_eq_true rfl), (Nat.le_of_ble_eq_true rfl)⟩) (cx_preV 0 7 hK hN hX hS hA (P_l hP) (D_l hD) rfl rfl) rfl rfl hl.1 rfl (lv_room (Nat.le_of_ble_eq_true rfl)) dL_spans_4 ⟨(Nat.le_of_ble_eq_true rfl), (Nat.le_of_ble_eq_true rfl)⟩) (fun E9 ce9 q9 u9 H9 locs9 a1 a2 a3 a4 a5 a6 a7 => ?_) (fun r7 u7 H locs w7 hP hD hS => ?_)
  · rcases hpx E9 u9 a4 with rfl
    refine vx_catch (own := RL) (name := nIA) hown [] ⟨0, 16, 19, 13⟩ [] (htab.trans rfl) (fun _ hz => nomatch hz) rfl (by decide) (hts (.classLink RL 13 nIA) (by decide +kernel)) (va_Nw.use rfl (hX.1.2.1 (nIA, nIA) (by decide +kernel))) a1 a2 a3 ?_
    refine lv_astore (lv' := [(4, .ref q9), (0, .ref (R 0)), (1, .long z), (3, .ref o)]) hx hb dL_spans_19 hl (by decide) rfl (fun ls hl => ?_)
    refine lv_iconst (v := 1) hx hb dL_spans_21 (by decide) ?_
    exact hret 22 ls H9 locs9 1 (u9, w) _ _ (Nat.le_of_ble_eq_true rfl) (Nat.le_of_ble_eq_true rfl) dL_spans_22 rfl (.inr (⟨rfl, a4⟩)) a5 a6 a7
  · -- it returned
    refine lv_if_eq (tgt := 14) hx hb dL_spans_7 (by decide) (fun c7 => ?_) (fun c7 => ?_)
    · -- t
      refine lv_lconst (v := 0) hx hb dL_spans_14 (by decide) ?_
      have h8 : vp_in 0 1 := vp_in_nI (n := 0) (N := 1) (by decide) (by decide)
      refine va_last hx hb hK hP hD hS 55 1 rfl rfl h8 dL_spans_15 (fun H locs hP hD hS => ?_)
      have hP : va_P (dC, dI) vwCl (LW cI cJ cII cJJ R o (u7, vp_updL w 0 0)) H := hP
      have hD : va_D Aa (LW cI cJ cII cJJ R o (u7, vp_updL w 0 0)) := hD
      refine lv_goto (tgt := 23) hx hb dL_spans_16 (by decide) ?_
      refine lv_iconst (v := 0) hx hb dL_spans_23 (by decide) ?_
      exact hret 24 ls H locs 0 (u7, vp_updL w 0 0) _ _ (Nat.le_of_ble_eq_true rfl) (Nat.le_of_ble_eq_true rfl) dL_spans_24 rfl (.inl ⟨rfl, r7, w7, by rw [if_pos c7]; exact (pk_uLs : vp_updL w 0 0 0 = _)⟩) hP hD hS
    · -- f
      refine lv_lconst (v := 1) hx hb dL_spans_10 (by decide) ?_
      refine lv_goto (tgt := 15) hx hb dL_spans_11 (by decide) ?_
      have h8 : vp_in 0 1 := vp_in_nI (n := 0) (N := 1) (by decide) (by decide)
      refine va_last hx hb hK hP hD hS 55 1 rfl rfl h8 dL_spans_15 (fun H locs hP hD hS => ?_)
      have hP : va_P (dC, dI) vwCl (LW cI cJ cII cJJ R o (u7, vp_updL w 0 1)) H := hP
      have hD : va_D Aa (LW cI cJ cII cJJ R o (u7, vp_updL w 0 1)) := hD
      refine lv_goto (tgt := 23) hx hb dL_spans_16 (by decide) ?_
      refine lv_iconst (v := 0) hx hb dL_spans_23 (by decide) ?_
      exact hret 24 ls H locs 0 (u7, vp_updL w 0 1) _ _ (Nat.le_of_ble_eq_true rfl) (Nat.le_of_ble_eq_true rfl) dL_spans_24 rfl (.inl ⟨rfl, r7, w7, by rw [if_neg c7]; exact (pk_uLs : vp_updL w 0 1 0 = _)⟩) hP hD hS
set_option maxHeartbeats 4000000 in
set_option maxRecDepth 100000 in
theorem k_L_look (l : Launch) (dC : Nat → ClassId) (dI : Nat → Nat → Nat) (cI cJ cZ cII cJJ : ClassId) (R : Nat → Nat) (o : Nat) (v : Int32) (u0 : sgH) (w : Nat → Int64) (po : Int32 → sgH → Prop) (px : String → sgH → Prop) (hC : cxI l (dC, dI) (tyL cI cJ cZ cII cJJ) (HW cI cJ cII cJJ R) yX7_look wsX7_look (8, 250) 2 [.ref (R 0), .int v] u0 po px) (hpx : ∀ E u, px E u → E = nIA) : cxI l (dC, dI) (tyL cI cJ cZ cII cJJ) (LW cI cJ cII cJJ R o) yL_look wsL_look (9, 290) 2 [.ref (R 0), .int v, .ref o] (u0, w) (fun r u => (r = 0 ∧ ∃ r' : Int32, po r' u.1 ∧ u.2 0 = r'.toInt64) ∨ (r = 1 ∧ px nIA u.1)) (fun _ _ => False) := by
  refine cxW_intro (cc := cL_look) (maxL := 4) (by decide) rfl (Nat.le_of_ble_eq_true rfl) ?_
  intro p e s m below meth c ls Aa Q F htab hK hN hX hP hD hS hA hl hret
  have hx := F.1
  have hb := F.2.1
  have hown : s.vm.findClass RL = some m.cls := F.2.2.2.1
  have hts := F.2.2.2.2
  have hl : lv_has ls 4 [(0, .ref (R 0)), (1, .int v), (2, .ref o)] := hl
  refine lv_aload_n hx hb dL_look_0 rfl (lv_at hl 2 rfl) ?_
  refine lv_iconst (v := 0) hx hb dL_look_1 (by decide) ?_
  refine lv_aload_n hx hb dL_look_2 rfl (lv_at hl 0 rfl) ?_
  refine lv_iload_n hx hb dL_look_3 rfl (lv_at hl 1 rfl) ?_
  refine fx_calli (wr := [(o, aJ cJ 1 w)]) hP hD hS hA (vx_runV (As := [.int v]) (rest := [.int 0, .ref o]) F (hC _) (cwV 1 hts gL_look_X7_look rfl rfl rfl (by decide +kernel) ⟨(Nat.le_of_ble_eq_true rfl), (Nat.le_of_ble_eq_true rfl)⟩) (cx_preV 0 7 hK hN hX hS hA (P_l hP) (D_l hD) rfl rfl) rfl rfl hl.1 rfl (lv_room (Nat.le_of_ble_eq_true rfl)) dL_look_4 ⟨(Nat.le_of_ble_eq_true rfl), (Nat.le_of_ble_eq_true rfl)⟩) (fun E9 ce9 q9 u9 H9 locs9 a1 a2 a3 a4 a5 a6 a7 => ?_) (fun r7 u7 H locs w7 hP hD hS => ?_)
  · rcases hpx E9 u9 a4 with rfl
    refine vx_catch (own := RL) (name := nIA) hown [] ⟨0, 9, 12, 13⟩ [] (htab.trans rfl) (fun _ hz => nomatch hz) rfl (by decide) (hts (.classLink RL 13 nIA) (by decide +kernel)) (va_Nw.use rfl (hX.1.2.1 (nIA, nIA) (by decide +kernel))) a1 a2 a3 ?_
    refine lv_astore_n (lv' := [(3, .ref q9), (0, .ref (R 0)), (1, .int v), (2, .ref o)]) hx hb dL_look_12 rfl hl (by decide) rfl (fun ls hl => ?_)
    refine lv_iconst (v := 1) hx hb dL_look_13 (by decide) ?_
    exact hret 14 ls H9 locs9 1 (u9, w) _ _ (Nat.le_of_ble_eq_true rfl) (Nat.le_of_ble_eq_true rfl) dL_look_14 rfl (.inr (⟨rfl, a4⟩)) a5 a6 a7
  · -- it returned
    refine lv_i2l hx hb dL_look_7 rfl ?_
    refine lv_topl (fun x7 ex7 => ?_)
    have h8 : vp_in 0 1 := vp_in_nI (n := 0) (N := 1) (by decide) (by decide)
    refine va_last hx hb hK hP hD hS 55 1 rfl rfl h8 dL_look_8 (fun H locs hP hD hS => ?_)
    have hP : va_P (dC, dI) vwCl (LW cI cJ cII cJJ R o (u7, vp_updL w 0 x7)) H := hP
    have hD : va_D Aa (LW cI cJ cII cJJ R o (u7, vp_updL w 0 x7)) := hD
    refine lv_goto (tgt := 15) hx hb dL_look_9 (by decide) ?_
    refine lv_iconst (v := 0) hx hb dL_look_15 (by decide) ?_
    exact hret 16 ls H locs 0 (u7, vp_updL w 0 x7) _ _ (Nat.le_of_ble_eq_true rfl) (Nat.le_of_ble_eq_true rfl) dL_look_16 rfl (.inl ⟨rfl, r7, w7, by rw [← ex7]; exact (pk_uLs : vp_updL w 0 x7 0 = _)⟩) hP hD hS
