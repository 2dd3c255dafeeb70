set_option maxHeartbeats 4000000 in
set_option maxRecDepth 100000 in
theorem k_X7_weightOfLightestJoins (l : Launch) (dC : Nat → ClassId) (dI : Nat → Nat → Nat) (cI cJ cZ cII cJJ : ClassId) (R : Nat → Nat) (I : Nat → Int32) (A : Nat → Nat → Int32) (B : Nat → Nat → Int64) (C : Nat → Nat → Int32) (T : Nat → Nat → Int64) (nv ne : Nat) (fr to wt : Nat → Nat) (q0 : JS) (g : gH nv ne fr to wt I A) (hq0 : rQ nv q0 I A B) (hj0 : jI nv q0) : ctL l (dC, dI) (tyL cI cJ cZ cII cJJ) (HW cI cJ cII cJJ R) yX7_weightOfLightestJoins wsX7_weightOfLightestJoins (2, 60) [.ref (R 0)] (I, A, B, C, T) (fun r u => r = lN (lgo fr to wt ne (nv - 1) q0 0) ∧ fG I A B C T u) := by
  refine ctL_intro (cc := cX7_weightOfLightestJoins) (maxL := 5) (by decide) rfl (Nat.le_of_ble_eq_true rfl) ?_
  intro p e s m below meth c ls Aa Q F hK hN hP hD hS hA hl hret
  have hx := F.1
  have hb := F.2.1
  have hown : s.vm.findClass RX7 = some m.cls := F.2.2.2.1
  have hts := F.2.2.2.2
  have hinX2 : ∀ w ∈ wsX20, w ∈ wsX7_weightOfLightestJoins := by decide +kernel
  have hinX3 : ∀ w ∈ wsX30, w ∈ wsX7_weightOfLightestJoins := by decide +kernel
  have hinX7 : ∀ w ∈ wsX70, w ∈ wsX7_weightOfLightestJoins := by decide +kernel
  have hf10 := hts (.fieldLink RX7 10 "CycleHouse" "graph" "LCycleHouse$Graph;") (by decide +kernel)
  have hf26 := hts (.fieldLink RX7 26 "CycleHouse" "groups" "LCycleHouse$Groups;") (by decide +kernel)
  have hl : lv_has ls 5 [(0, .ref (R 0))] := hl
  refine lv_lconst (v := 0) hx hb dX7_weightOfLightestJoins_0 (by decide) ?_
  refine lv_lstore_n (lv' := [(1, .long 0), (0, .ref (R 0))]) hx hb dX7_weightOfLightestJoins_1 rfl hl (by decide) rfl (fun ls hl => ?_)
  refine lv_iconst (v := 1) hx hb dX7_weightOfLightestJoins_2 (by decide) ?_
  refine lv_istore_n (lv' := [(3, .int 1), (1, .long 0), (0, .ref (R 0))]) hx hb dX7_weightOfLightestJoins_3 rfl hl (by decide) rfl (fun ls hl => ?_)
  have K4 : ∀ (kn : Nat) (r : Nat) (q : JS) (acc : Nat) (y : Int64) (I_4 : Nat → Int32) (A_4 : Nat → Nat → Int32) (B_4 : Nat → Nat → Int64) (C_4 : Nat → Nat → Int32) (T_4 : Nat → Nat → Int64) (ls : Array Slot) (H : Heap) (locs : List Loc), nv - r < kn → (1 ≤ r ∧ r ≤ nv ∧ y = lN acc ∧ rQ nv q I_4 A_4 B_4 ∧ jI nv q ∧ fG I A B C T (I_4, A_4, B_4, C_4, T_4) ∧ lgo fr to wt ne (nv - 1) q0 0 = lgo fr to wt ne (nv - r) q acc) → va_P (dC, dI) vwCl (HW cI cJ cII cJJ R (I_4, A_4, B_4, C_4, T_4)) H → va_D Aa (HW cI cJ cII cJJ R (I_4, A_4, B_4, C_4, T_4)) → va_S Aa s.heap H locs → lv_has ls 5 [(0, .ref (R 0)), (1, .long y), (3, .int (nI r))] → W p l e (ctR (2, 60)) s m #[.ref (R 0)] below meth c H locs 0 0 Q (F0 m 4 ls []) := by
    intro kn
    induction kn with
    | zero => intro r q acc y I_4 A_4 B_4 C_4 T_4 ls H locs hmu; exact absurd hmu (Nat.not_lt_zero _)
    | succ kn ih4 =>
      intro r q acc y I_4 A_4 B_4 C_4 T_4 ls H locs mu4 inv4 hP hD hS hl
      obtain ⟨hr1, hr2, ey, hq, hj, hf, hres⟩ := inv4
      have gg := g.fg hf
      have g2 := g.2.1
      have g3 := g.2.2.1
      refine lv_iload_n hx hb dX7_weightOfLightestJoins_4 rfl (lv_at hl 2 rfl) ?_
      refine lv_aload_n hx hb dX7_weightOfLightestJoins_5 rfl (lv_at hl 0 rfl) ?_
      refine va_get (D := (dC, dI)) (ci := 7) (v := .ref (R 1)) (C := RX7) (T := TX7) (N := 8) hx hb hts hinX7 hown hK hP 0 rfl rfl 0 (by decide) hf10 (fun _ h9 => h9) rfl dX7_weightOfLightestJoins_6 ?_
      refine va_getN (D := (dC, dI)) (ci := 2) (v := .int (I_4 0)) (C := RX2) (T := TX2) (N := 5) hx hb hts hinX2 hown hK hP 1 rfl rfl 0 (by decide) (nwOK.f hN RX7 205 "CycleHouse$Graph" "vertices" "I" "CycleHouse" (by decide +kernel)) (fun _ h9 => h9) rfl dX7_weightOfLightestJoins_9 ?_
      refine lv_icmp_ge (tgt := 63) hx hb dX7_weightOfLightestJoins_12 (by decide) (fun c12 => ?_) (fun c12 => ?_)
      · -- 12 taken
        rw [show I_4 0 = nI nv from gg.2.2.2.1, nI_leI (by omega) (by omega)] at c12
        have hfin : lgo fr to wt ne (nv - 1) q0 0 = acc := by rw [hres, show nv - r = 0 by omega]; rfl
        refine lv_lload_n hx hb dX7_weightOfLightestJoins_63 rfl (lv_at hl 1 rfl) ?_
        refine hret 64 ls _ _ y (I_4, A_4, B_4, C_4, T_4) dX7_weightOfLightestJoins_64 ?_ hP hD hS
        try dsimp only
        exact ⟨by rw [ey, hfin], hf⟩
      · -- 12 not
        rw [show I_4 0 = nI nv from gg.2.2.2.1, nI_leI (by omega) (by omega)] at c12
        refine lv_aload_n hx hb dX7_weightOfLightestJoins_15 rfl (lv_at hl 0 rfl) ?_
        refine ct_calli hD hS hA (va_runV (As := []) (rest := []) F ((k_X7_lightestJoin l dC dI cI cJ cZ cII cJJ R I_4 A_4 B_4 C_4 T_4 nv ne fr to wt q gg hq.1) _) (cwV 0 hts gX7_weightOfLightestJoins_X7_lightestJoin rfl rfl rfl (by decide +kernel) ⟨(Nat.le_of_ble_eq_true rfl), (Nat.le_of_ble_eq_true rfl)⟩) (ct_preV 0 7 hK hN hP hD rfl rfl) rfl rfl hl.1 rfl (lv_room (Nat.le_of_ble_eq_true rfl)) dX7_weightOfLightestJoins_16 ⟨(Nat.le_of_ble_eq_true rfl), (Nat.le_of_ble_eq_true rfl)⟩) (fun r16 u16 H locs w16 hP hD hS => ?_)
        obtain ⟨w16, rfl⟩ := w16
        refine lv_istore (lv' := [(4, .int r16), (0, .ref (R 0)), (1, .long y), (3, .int (nI r))]) hx hb dX7_weightOfLightestJoins_19 hl (by decide) rfl (fun ls hl => ?_)
        refine lv_iload hx hb dX7_weightOfLightestJoins_21 (lv_at hl 0 rfl) ?_
        refine lv_iconst (v := (-1)) hx hb dX7_weightOfLightestJoins_23 (by decide) ?_
        refine lv_icmp_ne (tgt := 29) hx hb dX7_weightOfLightestJoins_24 (by decide) (fun c24 => ?_) (fun c24 => ?_)
        · -- 24 taken
          obtain ⟨b0, hbs⟩ : ∃ b0, bE1 fr to wt q ne = some b0 := by
            cases h : bE1 fr to wt q ne with
            | some b1 => exact ⟨b1, rfl⟩
            | none => rw [w16, h] at c24; exact absurd rfl c24
          have hb0 := (bE1_in hbs).1
          have ebb : r16 = nI b0 := by rw [w16, hbs]; rfl
          have bcl : (nI b0).toNatClampNeg = b0 := nI_clamp (by omega)
          have gb := gg.2.2.2.2.2 b0 hb0
          subst ebb
          refine lv_aload_n hx hb dX7_weightOfLightestJoins_29 rfl (lv_at hl 1 rfl) ?_
          refine va_get (D := (dC, dI)) (ci := 7) (v := .ref (R 7)) (C := RX7) (T := TX7) (N := 8) hx hb hts hinX7 hown hK hP 0 rfl rfl 2 (by decide) hf26 (fun _ h9 => h9) rfl dX7_weightOfLightestJoins_30 ?_
          refine lv_aload_n hx hb dX7_weightOfLightestJoins_33 rfl (lv_at hl 1 rfl) ?_
          refine va_get (D := (dC, dI)) (ci := 7) (v := .ref (R 1)) (C := RX7) (T := TX7) (N := 8) hx hb hts hinX7 hown hK hP 0 rfl rfl 0 (by decide) hf10 (fun _ h9 => h9) rfl dX7_weightOfLightestJoins_34 ?_
          refine lv_iload hx hb dX7_weightOfLightestJoins_37 (lv_at hl 0 rfl) ?_
          refine ct_calll hD hS hA (va_runV (As := [.ref (R 1), .int (nI b0)]) (rest := []) F ((k_X3_join l dC dI cI cJ cZ cII cJJ R I_4 A_4 B_4 C_4 T_4 nv ne fr to wt b0 q gg hb0 hq hj) _) (cwV 2 hts gX7_weightOfLightestJoins_X3_join rfl rfl rfl (by decide +kernel) ⟨(Nat.le_of_ble_eq_true rfl), (Nat.le_of_ble_eq_true rfl)⟩) (ct_preV 7 3 hK hN hP hD rfl rfl) rfl rfl hl.1 rfl (lv_room (Nat.le_of_ble_eq_true rfl)) dX7_weightOfLightestJoins_39 ⟨(Nat.le_of_ble_eq_true rfl), (Nat.le_of_ble_eq_true rfl)⟩) (fun r39 u39 H locs w39 hP hD hS => ?_)
          obtain ⟨I39, A39, B39, C39, T39⟩ := u39
          have gb2 := (gg.fg w39.2.2).2.2.2.2.2 b0 hb0
          refine lv_pop2_2 hx hb dX7_weightOfLightestJoins_42 rfl ?_
          refine lv_lload_n hx hb dX7_weightOfLightestJoins_43 rfl (lv_at hl 2 rfl) ?_
          refine lv_aload_n hx hb dX7_weightOfLightestJoins_44 rfl (lv_at hl 1 rfl) ?_
          refine va_get (D := (dC, dI)) (ci := 7) (v := .ref (R 1)) (C := RX7) (T := TX7) (N := 8) hx hb hts hinX7 hown hK hP 0 rfl rfl 0 (by decide) hf10 (fun _ h9 => h9) rfl dX7_weightOfLightestJoins_45 ?_
          refine va_getN (D := (dC, dI)) (ci := 2) (v := .ref (R 4)) (C := RX2) (T := TX2) (N := 5) hx hb hts hinX2 hown hK hP 1 rfl rfl 4 (by decide) (nwOK.f hN RX7 158 "CycleHouse$Graph" "weight" "[I" "CycleHouse" (by decide +kernel)) (fun _ h9 => h9) rfl dX7_weightOfLightestJoins_48 ?_
          refine lv_iload hx hb dX7_weightOfLightestJoins_51 (lv_at hl 0 rfl) ?_
          have h53 : vp_in (nI b0) 40 := vp_in_nI (by omega) (by omega)
          refine va_iald hx hb hK hP 4 0 rfl rfl h53 dX7_weightOfLightestJoins_53 ?_
          refine lv_topi (fun x53 ex53 => ?_)
          have ex53 : x53 = A39 4 (nI b0).toNatClampNeg := ex53
          refine lv_i2l hx hb dX7_weightOfLightestJoins_54 rfl ?_
          refine lv_topl (fun x54 ex54 => ?_)
          refine lv_ladd hx hb dX7_weightOfLightestJoins_55 ?_
          refine lv_topl (fun x55 ex55 => ?_)
          refine lv_lstore_n (lv' := [(1, .long x55), (4, .int (nI b0)), (0, .ref (R 0)), (3, .int (nI r))]) hx hb dX7_weightOfLightestJoins_56 rfl hl (by decide) rfl (fun ls hl => ?_)
          obtain ⟨x57, ex57⟩ : ∃ zz : Int32, zz = nI r + (1) := ⟨_, rfl⟩
          refine lv_iinc (v := x57) (lv' := [(3, .int x57), (1, .long x55), (4, .int (nI b0)), (0, .ref (R 0))]) hx hb dX7_weightOfLightestJoins_57 hl (k := 3) rfl (by rw [ex57]; rfl) (by decide) rfl (fun ls hl => ?_)
          have ex57 : x57 = nI (r + 1) := by rw [ex57]; exact nI_1 r
          subst ex57
          refine lv_goto (tgt := 4) hx hb dX7_weightOfLightestJoins_60 (by decide) ?_
          exact ih4 (r + 1) (jStep (fr b0) (to b0) b0 q) (acc + wt b0) x55 I39 A39 B39 C39 T39 ls _ _ (by omega) ⟨by omega, by omega, by rw [ex55, ey, ex54, ex53, bcl, show A39 4 b0 = nI (wt b0) from gb2.2.2.1, nm_il (by have := gb2.2.2.2; omega), lN_add], w39.2.1, jI_step hj gb.1.2 gb.2.1.2, hf.tr w39.2.2, by rw [hres, show nv - r = (nv - (r + 1)) + 1 by omega, lgo_some hbs]⟩ hP hD hS (lv_sub hl [3, 1, 0] rfl)
        · -- 24 not
          have hbn : bE1 fr to wt q ne = none := by
            cases h : bE1 fr to wt q ne with
            | none => rfl
            | some b1 => rw [w16, h] at c24; exact absurd (show nI b1 < 0 by rw [show nI b1 = -1 from c24]; decide) (nI_pos (by have := (bE1_in h).1; omega))
          have hfin : lgo fr to wt ne (nv - 1) q0 0 = acc := by rw [hres, lgo_none hbn]
          refine lv_lload_n hx hb dX7_weightOfLightestJoins_27 rfl (lv_at hl 2 rfl) ?_
          refine hret 28 ls _ _ y (I_4, A_4, B_4, C_4, T_4) dX7_weightOfLightestJoins_28 ?_ hP hD hS
          try dsimp only
          exact ⟨by rw [ey, hfin], hf⟩
  exact K4 _ 1 q0 0 0 I A B C T ls _ _ (Nat.lt_succ_self _) ⟨Nat.le_refl 1, g.1, rfl, hq0, hj0, fG.rf, rfl⟩ hP hD hS (lv_sub hl [2, 1, 0] rfl)
/-- what the class's list leaves of a set -/
def rst (row : Nat → Nat) : Nat → Nat → Nat
  | 0, z => z
  | e + 1, z => if (rst row e z).testBit e then rst row e z ^^^ row e else rst row e z
/-- the list: how many sets, the rank, the rows -/
def rS (n rk2 : Nat) (row : Nat → Nat) (I : Nat → Int32) (B : Nat → Nat → Int64) : Prop := I 2 = nI n ∧ I 3 = nI rk2 ∧ ∀ e, e < 40 → B 6 e = lN (row e) ∧ row e < 2 ^ 40
theorem rst_lt {row : Nat → Nat} {z : Nat} (hz : z < 2 ^ 40) (hr : ∀ e, e < 40 → row e < 2 ^ 40) : ∀ k, k ≤ 40 → rst row k z < 2 ^ 40
  | 0, _ => hz
  | k + 1, hk => by
    have ih := rst_lt hz hr k (by omega)
    simp only [rst]
    split
    · exact Nat.xor_lt_two_pow ih (hr k (by omega))
    · exact ih
set_option maxHeartbeats 4000000 in
set_option maxRecDepth 100000 in
theorem k_X5_rest (l : Launch) (dC : Nat → ClassId) (dI : Nat → Nat → Nat) (cI cJ cZ cII cJJ : ClassId) (R : Nat → Nat) (I : Nat → Int32) (A : Nat → Nat → Int32) (B : Nat → Nat → Int64) (C : Nat → Nat → Int32) (T : Nat → Nat → Int64) (n2 rk2 : Nat) (row : Nat → Nat) (z : Nat) (hs : rS n2 rk2 row I B) (hz : z < 2 ^ 40) : ctL l (dC, dI) (tyL cI cJ cZ cII cJJ) (HW cI cJ cII cJJ R) yX5_rest wsX5_rest (1, 30) [.ref (R 5), .long (lN z)] (I, A, B, C, T) (fun r u => r = lN (rst row 40 z) ∧ u = (I, A, B, C, T)) := by
  refine ctL_intro (cc := cX5_rest) (maxL := 6) (by decide) rfl (Nat.le_of_ble_eq_true rfl) ?_
  intro p e s m below meth c ls Aa Q F hK hN hP hD hS hA hl hret
  have hx := F.1
  have hb := F.2.1
  have hown : s.vm.findClass RX5 = some m.cls := F.2.2.2.1
  have hts := F.2.2.2.2
  have hinX5 : ∀ w ∈ wsX50, w ∈ wsX5_rest := by decide +kernel
  have hf9 := hts (.fieldLink RX5 9 "CycleHouse$SetList" "row" "[J") (by decide +kernel)
  have hl : lv_has ls 6 [(0, .ref (R 5)), (1, .long (lN z))] := hl
  refine lv_lload_n hx hb dX5_rest_0 rfl (lv_at hl 1 rfl) ?_
  refine lv_lstore_n (lv' := [(3, .long (lN z)), (0, .ref (R 5)), (1, .long (lN z))]) hx hb dX5_rest_1 rfl hl (by decide) rfl (fun ls hl => ?_)
  refine lv_iconst (v := 0) hx hb dX5_rest_2 (by decide) ?_
  refine lv_istore (lv' := [(5, .int 0), (3, .long (lN z)), (0, .ref (R 5)), (1, .long (lN z))]) hx hb dX5_rest_3 hl (by decide) rfl (fun ls hl => ?_)
  have K5 : ∀ (kn : Nat) (i : Nat) (y : Int64) (ls : Array Slot) (H : Heap) (locs : List Loc), 40 - i < kn → (i ≤ 40 ∧ y = lN (rst row i z)) → va_P (dC, dI) vwCl (HW cI cJ cII cJJ R (I, A, B, C, T)) H → va_D Aa (HW cI cJ cII cJJ R (I, A, B, C, T)) → va_S Aa s.heap H locs → lv_has ls 6 [(0, .ref (R 5)), (1, .long (lN z)), (3, .long y), (5, .int (nI i))] → W p l e (ctR (1, 30)) s m #[.ref (R 5), .long (lN z)] below meth c H locs 0 0 Q (F0 m 5 ls []) := by
    intro kn
    induction kn with
    | zero => intro i y ls H locs hmu; exact absurd hmu (Nat.not_lt_zero _)
    | succ kn ih5 =>
      intro i y ls H locs mu5 inv5 hP hD hS hl
      obtain ⟨hi, ey⟩ := inv5
      have hl1 := rst_lt hz (fun e he => (hs.2.2 e he).2) i hi
      refine lv_iload hx hb dX5_rest_5 (lv_at hl 3 rfl) ?_
      refine lv_bipush (v := 40) hx hb dX5_rest_7 (by decide) ?_
      refine lv_icmp_ge (tgt := 37) hx hb dX5_rest_9 (by decide) (fun c9 => ?_) (fun c9 => ?_)
      · -- 9 taken
        have hge : i = 40 := by have := (nI_leI (a := 40) (by omega) (by omega)).mp c9; omega
        refine lv_lload_n hx hb dX5_rest_37 rfl (lv_at hl 2 rfl) ?_
        refine hret 38 ls _ _ y (I, A, B, C, T) dX5_rest_38 ?_ hP hD hS
        try dsimp only
        exact ⟨by rw [ey, hge], rfl⟩
      · -- 9 not
        have hlt : i < 40 := Nat.lt_of_not_le (fun h => c9 (nI_le (a := 40) h (by omega)))
        subst ey
        refine lv_lload_n hx hb dX5_rest_12 rfl (lv_at hl 2 rfl) ?_
        refine lv_iload hx hb dX5_rest_13 (lv_at hl 3 rfl) ?_
        refine ct_calli hD hS hA (va_runSN (As := [.long (lN (rst row i z)), .int (nI i)]) (rest := []) F ((k_X7_has l dC dI cI cJ cZ cII cJJ R I A B C T (rst row i z) i (Nat.lt_trans hl1 (by decide)) (by omega)) _) ⟨va_cnB 2 hts ggX5_rest_X7_has rfl rfl rfl (nwOK.m hN RX5 38 yX7_has "CycleHouse" (by decide +kernel)) (hts (.initialized RX7) (by decide +kernel)) (by decide +kernel) ⟨(Nat.le_of_ble_eq_true rfl), (Nat.le_of_ble_eq_true rfl)⟩, hts (.static yX7_has) (by decide +kernel), trivial⟩ (ct_preS hK hN hP hD) rfl rfl hl.1 rfl (lv_room (Nat.le_of_ble_eq_true rfl)) dX5_rest_15 ⟨(Nat.le_of_ble_eq_true rfl), (Nat.le_of_ble_eq_true rfl)⟩) (fun r15 u15 H locs w15 hP hD hS => ?_)
        obtain ⟨w15, rfl⟩ := w15
        refine lv_if_eq (tgt := 31) hx hb dX5_rest_18 (by decide) (fun c18 => ?_) (fun c18 => ?_)
        · -- 18 taken
          have c18 : (rst row i z).testBit i = false := by cases h : (rst row i z).testBit i with | false => rfl | true => rw [w15, h] at c18; exact absurd c18 (by decide)
          have ers : rst row (i + 1) z = rst row i z := by simp only [rst]; rw [if_neg (by rw [c18]; decide)]
          obtain ⟨x31, ex31⟩ : ∃ zz : Int32, zz = nI i + (1) := ⟨_, rfl⟩
          refine lv_iinc (v := x31) (lv' := [(5, .int x31), (0, .ref (R 5)), (1, .long (lN z)), (3, .long (lN (rst row i z)))]) hx hb dX5_rest_31 hl (k := 3) rfl (by rw [ex31]; rfl) (by decide) rfl (fun ls hl => ?_)
          have ex31 : x31 = nI (i + 1) := by rw [ex31]; exact nI_1 i
          subst ex31
          refine lv_goto (tgt := 5) hx hb dX5_rest_34 (by decide) ?_
          exact ih5 (i + 1) (lN (rst row i z)) ls _ _ (by omega) ⟨by omega, by rw [ers]⟩ hP hD hS (lv_sub hl [1, 2, 3, 0] rfl)
        · -- 18 not
          have c18 : (rst row i z).testBit i = true := by cases h : (rst row i z).testBit i with | true => rfl | false => rw [w15, h] at c18; exact absurd rfl c18
          have ers : rst row (i + 1) z = rst row i z ^^^ row i := by simp only [rst]; rw [if_pos c18]
          refine lv_lload_n hx hb dX5_rest_21 rfl (lv_at hl 2 rfl) ?_
          refine lv_aload_n hx hb dX5_rest_22 rfl (lv_at hl 0 rfl) ?_
          refine va_get (D := (dC, dI)) (ci := 5) (v := .ref (R 6)) (C := RX5) (T := TX5) (N := 3) hx hb hts hinX5 hown hK hP 5 rfl rfl 2 (by decide) hf9 (fun _ h9 => h9) rfl dX5_rest_23 ?_
          refine lv_iload hx hb dX5_rest_26 (lv_at hl 3 rfl) ?_
          have h28 : vp_in (nI i) 40 := vp_in_nI (by omega) (by omega)
          refine va_lald hx hb hK hP 6 1 rfl rfl h28 dX5_rest_28 ?_
          refine lv_topl (fun x28 ex28 => ?_)
          have ex28 : x28 = B 6 (nI i).toNatClampNeg := ex28
          have ex28 : x28 = lN (row i) := by rw [ex28, nI_clamp (by omega)]; exact (hs.2.2 i hlt).1
          subst ex28
          refine lv_lxor hx hb dX5_rest_29 ?_
          refine lv_topl (fun x29 ex29 => ?_)
          refine lv_lstore_n (lv' := [(3, .long x29), (0, .ref (R 5)), (1, .long (lN z)), (5, .int (nI i))]) hx hb dX5_rest_30 rfl hl (by decide) rfl (fun ls hl => ?_)
          obtain ⟨x31, ex31⟩ : ∃ zz : Int32, zz = nI i + (1) := ⟨_, rfl⟩
          refine lv_iinc (v := x31) (lv' := [(5, .int x31), (3, .long x29), (0, .ref (R 5)), (1, .long (lN z))]) hx hb dX5_rest_31 hl (k := 3) rfl (by rw [ex31]; rfl) (by decide) rfl (fun ls hl => ?_)
          have ex31 : x31 = nI (i + 1) := by rw [ex31]; exact nI_1 i
          subst ex31
          refine lv_goto (tgt := 5) hx hb dX5_rest_34 (by decide) ?_
          exact ih5 (i + 1) x29 ls _ _ (by omega) ⟨by omega, by rw [ers, ex29, lN_xor]⟩ hP hD hS (lv_sub hl [2, 3, 1, 0] rfl)
  exact K5 _ 0 (lN z) ls _ _ (Nat.lt_succ_self _) ⟨Nat.zero_le _, rfl⟩ hP hD hS (lv_sub hl [2, 3, 1, 0] rfl)
