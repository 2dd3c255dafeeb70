set_option maxHeartbeats 4000000 in
set_option maxRecDepth 100000 in
theorem k_X6_shorten (l : Launch) (dC : Nat → ClassId) (dI : Nat → Nat → Nat) (cI cJ cZ cII cJJ : ClassId) (R : Nat → Nat) (I : Nat → Int32) (A : Nat → Nat → Int32) (B : Nat → Nat → Int64) (C : Nat → Nat → Int32) (T : Nat → Nat → Int64) (N : Nat) (p2 : WSt) (a b k w2 : Nat) (hN : N ≤ 16) (hw : rWy N p2 B) (ha : a < N) (hb2 : b < N) (hk : k < 40) (hw2 : w2 ≤ 1000000000) : ctI l (dC, dI) (tyL cI cJ cZ cII cJJ) (HW cI cJ cII cJJ R) yX6_shorten wsX6_shorten (0, 0) [.ref (R 10), .int (nI a), .int (nI b), .int (nI k), .int (nI w2)] (I, A, B, C, T) (fun r u => r = (if sh1b a b w2 p2 then 1 else 0) ∧ rWy N (sh1 a b k w2 p2) u.2.2.1 ∧ fW I A B C T u) := by
  refine ctI_intro (cc := cX6_shorten) (maxL := 5) (by decide) rfl (Nat.le_of_ble_eq_true rfl) ?_
  intro p e s m below meth c ls Aa Q F hK hN hP hD hS hA hl hret
  have hx := F.1
  have hb := F.2.1
  have hown : s.vm.findClass RX6 = some m.cls := F.2.2.2.1
  have hts := F.2.2.2.2
  have hinX6 : ∀ w ∈ wsX60, w ∈ wsX6_shorten := by decide +kernel
  have hf9 := hts (.fieldLink RX6 9 "CycleHouse$Ways" "length" "[J") (by decide +kernel)
  have hf15 := hts (.fieldLink RX6 15 "CycleHouse$Ways" "way" "[J") (by decide +kernel)
  have hl : lv_has ls 5 [(0, .ref (R 10)), (1, .int (nI a)), (2, .int (nI b)), (3, .int (nI k)), (4, .int (nI w2))] := hl
  have acl : (nI a).toNatClampNeg = a := nI_clamp (by omega)
  have bcl : (nI b).toNatClampNeg = b := nI_clamp (by omega)
  have l1 := (hw a ha).2.1
  have l2 := (hw b hb2).2.1
  refine lv_aload_n hx hb dX6_shorten_0 rfl (lv_at hl 0 rfl) ?_
  refine va_get (D := (dC, dI)) (ci := 6) (v := .ref (R 11)) (C := RX6) (T := TX6) (N := 2) hx hb hts hinX6 hown hK hP 10 rfl rfl 0 (by decide) hf9 (fun _ h9 => h9) rfl dX6_shorten_1 ?_
  refine lv_iload_n hx hb dX6_shorten_4 rfl (lv_at hl 1 rfl) ?_
  have h5 : vp_in (nI a) 16 := vp_in_nI (by omega) (by omega)
  refine va_lald hx hb hK hP 11 1 rfl rfl h5 dX6_shorten_5 ?_
  refine lv_topl (fun x5 ex5 => ?_)
  have ex5 : x5 = B 11 (nI a).toNatClampNeg := ex5
  have ex5 : x5 = lN (p2.1 a) := by rw [ex5, acl]; exact (hw a ha).1
  subst ex5
  refine lv_iload hx hb dX6_shorten_6 (lv_at hl 4 rfl) ?_
  refine lv_i2l hx hb dX6_shorten_8 rfl ?_
  refine lv_topl (fun x8 ex8 => ?_)
  have ex8 : x8 = lN w2 := by rw [ex8]; exact nm_il (by omega)
  subst ex8
  refine lv_ladd hx hb dX6_shorten_9 ?_
  refine lv_topl (fun x9 ex9 => ?_)
  have ex9 : x9 = lN (p2.1 a + w2) := by rw [ex9, lN_add]
  subst ex9
  refine lv_aload_n hx hb dX6_shorten_10 rfl (lv_at hl 0 rfl) ?_
  refine va_get (D := (dC, dI)) (ci := 6) (v := .ref (R 11)) (C := RX6) (T := TX6) (N := 2) hx hb hts hinX6 hown hK hP 10 rfl rfl 0 (by decide) hf9 (fun _ h9 => h9) rfl dX6_shorten_11 ?_
  refine lv_iload_n hx hb dX6_shorten_14 rfl (lv_at hl 2 rfl) ?_
  have h15 : vp_in (nI b) 16 := vp_in_nI (by omega) (by omega)
  refine va_lald hx hb hK hP 11 1 rfl rfl h15 dX6_shorten_15 ?_
  refine lv_topl (fun x15 ex15 => ?_)
  have ex15 : x15 = B 11 (nI b).toNatClampNeg := ex15
  have ex15 : x15 = lN (p2.1 b) := by rw [ex15, bcl]; exact (hw b hb2).1
  subst ex15
  refine W.lcmp hx hb dX6_shorten_16 ?_
  refine lv_if_lt (tgt := 22) hx hb dX6_shorten_17 (by decide) (fun c17 => ?_) (fun c17 => ?_)
  · -- 17 taken
    rw [lg_cmp_lt] at c17
    rw [pk_lLT (by omega) (by omega)] at c17
    have c17 : sh1b a b w2 p2 = true := decide_eq_true c17
    refine lv_aload_n hx hb dX6_shorten_22 rfl (lv_at hl 0 rfl) ?_
    refine va_get (D := (dC, dI)) (ci := 6) (v := .ref (R 11)) (C := RX6) (T := TX6) (N := 2) hx hb hts hinX6 hown hK hP 10 rfl rfl 0 (by decide) hf9 (fun _ h9 => h9) rfl dX6_shorten_23 ?_
    refine lv_iload_n hx hb dX6_shorten_26 rfl (lv_at hl 2 rfl) ?_
    refine lv_aload_n hx hb dX6_shorten_27 rfl (lv_at hl 0 rfl) ?_
    refine va_get (D := (dC, dI)) (ci := 6) (v := .ref (R 11)) (C := RX6) (T := TX6) (N := 2) hx hb hts hinX6 hown hK hP 10 rfl rfl 0 (by decide) hf9 (fun _ h9 => h9) rfl dX6_shorten_28 ?_
    refine lv_iload_n hx hb dX6_shorten_31 rfl (lv_at hl 1 rfl) ?_
    have h32 : vp_in (nI a) 16 := vp_in_nI (by omega) (by omega)
    refine va_lald hx hb hK hP 11 1 rfl rfl h32 dX6_shorten_32 ?_
    refine lv_topl (fun x32 ex32 => ?_)
    have ex32 : x32 = B 11 (nI a).toNatClampNeg := ex32
    have ex32 : x32 = lN (p2.1 a) := by rw [ex32, acl]; exact (hw a ha).1
    subst ex32
    refine lv_iload hx hb dX6_shorten_33 (lv_at hl 4 rfl) ?_
    refine lv_i2l hx hb dX6_shorten_35 rfl ?_
    refine lv_topl (fun x35 ex35 => ?_)
    have ex35 : x35 = lN w2 := by rw [ex35]; exact nm_il (by omega)
    subst ex35
    refine lv_ladd hx hb dX6_shorten_36 ?_
    refine lv_topl (fun x36 ex36 => ?_)
    have ex36 : x36 = lN (p2.1 a + w2) := by rw [ex36, lN_add]
    subst ex36
    have h37 : vp_in (nI b) 16 := vp_in_nI (by omega) (by omega)
    refine va_last hx hb hK hP hD hS 11 1 rfl rfl h37 dX6_shorten_37 (fun H locs hP hD hS => ?_)
    obtain ⟨B37, eB37⟩ : ∃ zz : Nat → Nat → Int64, zz = va_up B 11 (vp_updL (B 11) (nI b).toNatClampNeg (lN (p2.1 a + w2))) := ⟨_, rfl⟩
    have hP : va_P (dC, dI) vwCl (HW cI cJ cII cJJ R (I, A, B37, C, T)) H := by rw [eB37]; exact hP
    have hD : va_D Aa (HW cI cJ cII cJJ R (I, A, B37, C, T)) := by rw [eB37]; exact hD
    refine lv_aload_n hx hb dX6_shorten_38 rfl (lv_at hl 0 rfl) ?_
    refine va_get (D := (dC, dI)) (ci := 6) (v := .ref (R 12)) (C := RX6) (T := TX6) (N := 2) hx hb hts hinX6 hown hK hP 10 rfl rfl 1 (by decide) hf15 (fun _ h9 => h9) rfl dX6_shorten_39 ?_
    refine lv_iload_n hx hb dX6_shorten_42 rfl (lv_at hl 2 rfl) ?_
    refine lv_aload_n hx hb dX6_shorten_43 rfl (lv_at hl 0 rfl) ?_
    refine va_get (D := (dC, dI)) (ci := 6) (v := .ref (R 12)) (C := RX6) (T := TX6) (N := 2) hx hb hts hinX6 hown hK hP 10 rfl rfl 1 (by decide) hf15 (fun _ h9 => h9) rfl dX6_shorten_44 ?_
    refine lv_iload_n hx hb dX6_shorten_47 rfl (lv_at hl 1 rfl) ?_
    have h48 : vp_in (nI a) 16 := vp_in_nI (by omega) (by omega)
    refine va_lald hx hb hK hP 12 1 rfl rfl h48 dX6_shorten_48 ?_
    refine lv_topl (fun x48 ex48 => ?_)
    have ex48 : x48 = B37 12 (nI a).toNatClampNeg := ex48
    have ex48 : x48 = lN (p2.2 a) := by rw [ex48, acl, eB37, up_ne (by decide)]; exact (hw a ha).2.2
    subst ex48
    refine lv_lconst (v := 1) hx hb dX6_shorten_49 (by decide) ?_
    refine lv_iload_n hx hb dX6_shorten_50 rfl (lv_at hl 3 rfl) ?_
    refine lv_lshl hx hb dX6_shorten_51 rfl ?_
    refine lv_topl (fun x51 ex51 => ?_)
    have ex51 : x51 = lN (2 ^ k) := by rw [ex51]; exact nm_pow (by omega)
    subst ex51
    refine lv_lxor hx hb dX6_shorten_52 ?_
    refine lv_topl (fun x52 ex52 => ?_)
    have ex52 : x52 = lN (p2.2 a ^^^ 2 ^ k) := by rw [ex52, lN_xor]
    subst ex52
    have h53 : vp_in (nI b) 16 := vp_in_nI (by omega) (by omega)
    refine va_last hx hb hK hP hD hS 12 1 rfl rfl h53 dX6_shorten_53 (fun H locs hP hD hS => ?_)
    obtain ⟨B53, eB53⟩ : ∃ zz : Nat → Nat → Int64, zz = va_up B37 12 (vp_updL (B37 12) (nI b).toNatClampNeg (lN (p2.2 a ^^^ 2 ^ k))) := ⟨_, rfl⟩
    have hP : va_P (dC, dI) vwCl (HW cI cJ cII cJJ R (I, A, B53, C, T)) H := by rw [eB53]; exact hP
    have hD : va_D Aa (HW cI cJ cII cJJ R (I, A, B53, C, T)) := by rw [eB53]; exact hD
    refine lv_iconst (v := 1) hx hb dX6_shorten_54 (by decide) ?_
    refine hret 55 ls _ _ 1 (I, A, B53, C, T) dX6_shorten_55 rfl ?_ hP hD hS
    try dsimp only
    exact ⟨by rw [c17]; rfl, rWy_put hw hb2 c17 (by rw [eB53, up_ne (by decide), eB37, up_self, bcl]) (by rw [eB53, up_self, eB37, up_ne (by decide), bcl]), fW.of rfl rfl (fun k h1 h2 => by rw [eB53, up_ne h2, eB37, up_ne h1]) rfl rfl⟩
  · -- 17 not
    rw [lg_cmp_lt] at c17
    rw [pk_lLT (by omega) (by omega)] at c17
    have c17 : sh1b a b w2 p2 = false := decide_eq_false c17
    refine lv_iconst (v := 0) hx hb dX6_shorten_20 (by decide) ?_
    refine hret 21 ls _ _ 0 (I, A, B, C, T) dX6_shorten_21 rfl ?_ hP hD hS
    try dsimp only
    exact ⟨by rw [c17]; rfl, by rw [sh1_no c17]; exact hw, fW.of rfl rfl (fun _ _ _ => rfl) rfl rfl⟩
set_option maxHeartbeats 4000000 in
set_option maxRecDepth 100000 in
theorem k_X6_shortenAll (l : Launch) (dC : Nat → ClassId) (dI : Nat → Nat → Nat) (cI cJ cZ cII cJJ : ClassId) (R : Nat → Nat) (I : Nat → Int32) (A : Nat → Nat → Int32) (B : Nat → Nat → Int64) (C : Nat → Nat → Int32) (T : Nat → Nat → Int64) (nv ne : Nat) (fr to wt : Nat → Nat) (p2 : WSt) (x2 : Nat) (xo : Int32) (g : gH nv ne fr to wt I A) (hw : rWy nv p2 B) (hxo : ∀ e, e < ne → (nI e = xo ↔ e = x2)) : ctI l (dC, dI) (tyL cI cJ cZ cII cJJ) (HW cI cJ cII cJJ R) yX6_shortenAll wsX6_shortenAll (1, 30) [.ref (R 10), .ref (R 1), .int xo] (I, A, B, C, T) (fun r u => r = (if (shA fr to wt x2 ne p2).2 then 1 else 0) ∧ rWy nv (shA fr to wt x2 ne p2).1 u.2.2.1 ∧ fW I A B C T u) := by
  refine ctI_intro (cc := cX6_shortenAll) (maxL := 7) (by decide) rfl (Nat.le_of_ble_eq_true rfl) ?_
  intro p e s m below meth c ls Aa Q F hK hN hP hD hS hA hl hret
  have hx := F.1
  have hb := F.2.1
  have hown : s.vm.findClass RX6 = some m.cls := F.2.2.2.1
  have hts := F.2.2.2.2
  have hinX2 : ∀ w ∈ wsX20, w ∈ wsX6_shortenAll := by decide +kernel
  have hinX6 : ∀ w ∈ wsX60, w ∈ wsX6_shortenAll := by decide +kernel
  have hl : lv_has ls 7 [(0, .ref (R 10)), (1, .ref (R 1)), (2, .int xo)] := hl
  obtain ⟨g1, g2, g3, g4, g5, g6⟩ := id g
  refine lv_iconst (v := 0) hx hb dX6_shortenAll_0 (by decide) ?_
  refine lv_istore_n (lv' := [(3, .int 0), (0, .ref (R 10)), (1, .ref (R 1)), (2, .int xo)]) hx hb dX6_shortenAll_1 rfl hl (by decide) rfl (fun ls hl => ?_)
  refine lv_iconst (v := 0) hx hb dX6_shortenAll_2 (by decide) ?_
  refine lv_istore (lv' := [(4, .int 0), (3, .int 0), (0, .ref (R 10)), (1, .ref (R 1)), (2, .int xo)]) hx hb dX6_shortenAll_3 hl (by decide) rfl (fun ls hl => ?_)
  have K5 : ∀ (kn : Nat) (i : Nat) (y : Int32) (B_5 : Nat → Nat → Int64) (ls : Array Slot) (H : Heap) (locs : List Loc), ne - i < kn → (i ≤ ne ∧ y = (if (shA fr to wt x2 i p2).2 then 1 else 0) ∧ rWy nv (shA fr to wt x2 i p2).1 B_5 ∧ ∀ k, k ≠ 11 → k ≠ 12 → B_5 k = B k) → va_P (dC, dI) vwCl (HW cI cJ cII cJJ R (I, A, B_5, C, T)) H → va_D Aa (HW cI cJ cII cJJ R (I, A, B_5, C, T)) → va_S Aa s.heap H locs → lv_has ls 7 [(0, .ref (R 10)), (1, .ref (R 1)), (2, .int xo), (3, .int y), (4, .int (nI i))] → W p l e (ctR (1, 30)) s m #[.ref (R 10), .ref (R 1), .int xo] below meth c H locs 0 0 Q (F0 m 5 ls []) := by
    intro kn
    induction kn with
    | zero => intro i y B_5 ls H locs hmu; exact absurd hmu (Nat.not_lt_zero _)
    | succ kn ih5 =>
      intro i y B_5 ls H locs mu5 inv5 hP hD hS hl
      obtain ⟨hi, ey, hw1, hB⟩ := inv5
      refine lv_iload hx hb dX6_shortenAll_5 (lv_at hl 4 rfl) ?_
      refine lv_aload_n hx hb dX6_shortenAll_7 rfl (lv_at hl 1 rfl) ?_
      refine va_getN (D := (dC, dI)) (ci := 2) (v := .int (I 1)) (C := RX2) (T := TX2) (N := 5) hx hb hts hinX2 hown hK hP 1 rfl rfl 1 (by decide) (nwOK.f hN RX6 30 "CycleHouse$Graph" "edges" "I" "CycleHouse" (by decide +kernel)) (fun _ h9 => h9) rfl dX6_shortenAll_8 ?_
      refine lv_icmp_ge (tgt := 84) hx hb dX6_shortenAll_11 (by decide) (fun c11 => ?_) (fun c11 => ?_)
      · -- 11 taken
        rw [g5, nI_leI (by omega) (by omega)] at c11
        have hge : i = ne := by omega
        rw [hge] at ey hw1
        refine lv_iload_n hx hb dX6_shortenAll_84 rfl (lv_at hl 3 rfl) ?_
        refine hret 85 ls _ _ y (I, A, B_5, C, T) dX6_shortenAll_85 (by rw [ey]; split <;> rfl) ?_ hP hD hS
        try dsimp only
        exact ⟨ey, hw1, fW.of rfl rfl hB rfl rfl⟩
      · -- 11 not
        rw [g5, nI_leI (by omega) (by omega)] at c11
        have icl : (nI i).toNatClampNeg = i := nI_clamp (by omega)
        have iin : vp_in (nI i) 40 := vp_in_nI (by omega) (by omega)
        have gi := g6 i (by omega)
        refine lv_iload hx hb dX6_shortenAll_14 (lv_at hl 4 rfl) ?_
        refine lv_iload_n hx hb dX6_shortenAll_16 rfl (lv_at hl 2 rfl) ?_
        refine lv_icmp_eq (tgt := 78) hx hb dX6_shortenAll_17 (by decide) (fun c17 => ?_) (fun c17 => ?_)
        · -- 17 taken
          have c17 : i = x2 := (hxo i (by omega)).mp c17
          obtain ⟨x78, ex78⟩ : ∃ zz : Int32, zz = nI i + (1) := ⟨_, rfl⟩
          refine lv_iinc (v := x78) (lv' := [(4, .int x78), (0, .ref (R 10)), (1, .ref (R 1)), (2, .int xo), (3, .int y)]) hx hb dX6_shortenAll_78 hl (k := 4) rfl (by rw [ex78]; rfl) (by decide) rfl (fun ls hl => ?_)
          have ex78 : x78 = nI (i + 1) := by rw [ex78]; exact nI_1 i
          subst ex78
          refine lv_goto (tgt := 5) hx hb dX6_shortenAll_81 (by decide) ?_
          exact ih5 (i + 1) y B_5 ls _ _ (by omega) ⟨by omega, by rw [shA, if_pos c17]; exact ey, by rw [shA, if_pos c17]; exact hw1, hB⟩ hP hD hS (lv_sub hl [1, 2, 3, 4, 0] rfl)
        · -- 17 not
          have c17 : ¬ i = x2 := fun h => c17 ((hxo i (by omega)).mpr h)
          refine lv_aload_n hx hb dX6_shortenAll_20 rfl (lv_at hl 1 rfl) ?_
          refine va_getN (D := (dC, dI)) (ci := 2) (v := .ref (R 2)) (C := RX2) (T := TX2) (N := 5) hx hb hts hinX2 hown hK hP 1 rfl rfl 2 (by decide) (nwOK.f hN RX6 33 "CycleHouse$Graph" "from" "[I" "CycleHouse" (by decide +kernel)) (fun _ h9 => h9) rfl dX6_shortenAll_21 ?_
          refine lv_iload hx hb dX6_shortenAll_24 (lv_at hl 4 rfl) ?_
          have h26 : vp_in (nI i) 40 := iin
          refine va_iald hx hb hK hP 2 0 rfl rfl h26 dX6_shortenAll_26 ?_
          refine lv_topi (fun x26 ex26 => ?_)
          have ex26 : x26 = A 2 (nI i).toNatClampNeg := ex26
          have ex26 : x26 = nI (fr i) := by rw [ex26, icl]; exact gi.1.1
          subst ex26
          refine lv_istore (lv' := [(5, .int (nI (fr i))), (0, .ref (R 10)), (1, .ref (R 1)), (2, .int xo), (3, .int y), (4, .int (nI i))]) hx hb dX6_shortenAll_27 hl (by decide) rfl (fun ls hl => ?_)
          refine lv_aload_n hx hb dX6_shortenAll_29 rfl (lv_at hl 2 rfl) ?_
          refine va_getN (D := (dC, dI)) (ci := 2) (v := .ref (R 3)) (C := RX2) (T := TX2) (N := 5) hx hb hts hinX2 hown hK hP 1 rfl rfl 3 (by decide) (nwOK.f hN RX6 37 "CycleHouse$Graph" "to" "[I" "CycleHouse" (by decide +kernel)) (fun _ h9 => h9) rfl dX6_shortenAll_30 ?_
          refine lv_iload hx hb dX6_shortenAll_33 (lv_at hl 5 rfl) ?_
          have h35 : vp_in (nI i) 40 := iin
          refine va_iald hx hb hK hP 3 0 rfl rfl h35 dX6_shortenAll_35 ?_
          refine lv_topi (fun x35 ex35 => ?_)
          have ex35 : x35 = A 3 (nI i).toNatClampNeg := ex35
          have ex35 : x35 = nI (to i) := by rw [ex35, icl]; exact gi.2.1.1
          subst ex35
          refine lv_istore (lv' := [(6, .int (nI (to i))), (5, .int (nI (fr i))), (0, .ref (R 10)), (1, .ref (R 1)), (2, .int xo), (3, .int y), (4, .int (nI i))]) hx hb dX6_shortenAll_36 hl (by decide) rfl (fun ls hl => ?_)
          refine lv_iload_n hx hb dX6_shortenAll_38 rfl (lv_at hl 5 rfl) ?_
          refine lv_aload_n hx hb dX6_shortenAll_39 rfl (lv_at hl 2 rfl) ?_
          refine lv_iload hx hb dX6_shortenAll_40 (lv_at hl 1 rfl) ?_
          refine lv_iload hx hb dX6_shortenAll_42 (lv_at hl 0 rfl) ?_
          refine lv_iload hx hb dX6_shortenAll_44 (lv_at hl 6 rfl) ?_
          refine lv_aload_n hx hb dX6_shortenAll_46 rfl (lv_at hl 3 rfl) ?_
          refine va_getN (D := (dC, dI)) (ci := 2) (v := .ref (R 4)) (C := RX2) (T := TX2) (N := 5) hx hb hts hinX2 hown hK hP 1 rfl rfl 4 (by decide) (nwOK.f hN RX6 40 "CycleHouse$Graph" "weight" "[I" "CycleHouse" (by decide +kernel)) (fun _ h9 => h9) rfl dX6_shortenAll_47 ?_
          refine lv_iload hx hb dX6_shortenAll_50 (lv_at hl 6 rfl) ?_
          have h52 : vp_in (nI i) 40 := iin
          refine va_iald hx hb hK hP 4 0 rfl rfl h52 dX6_shortenAll_52 ?_
          refine lv_topi (fun x52 ex52 => ?_)
          have ex52 : x52 = A 4 (nI i).toNatClampNeg := ex52
          have ex52 : x52 = nI (wt i) := by rw [ex52, icl]; exact gi.2.2.1
          subst ex52
          refine ct_calli hD hS hA (va_runV (As := [.int (nI (fr i)), .int (nI (to i)), .int (nI i), .int (nI (wt i))]) (rest := [.int y]) F ((k_X6_shorten l dC dI cI cJ cZ cII cJJ R I A B_5 C T nv (shA fr to wt x2 i p2).1 (fr i) (to i) i (wt i) g2 hw1 gi.1.2 gi.2.1.2 (by omega) gi.2.2.2) _) (cwV 4 hts gX6_shortenAll_X6_shorten rfl rfl rfl (by decide +kernel) ⟨(Nat.le_of_ble_eq_true rfl), (Nat.le_of_ble_eq_true rfl)⟩) (ct_preV 10 6 hK hN hP hD rfl rfl) rfl rfl hl.1 rfl (lv_room (Nat.le_of_ble_eq_true rfl)) dX6_shortenAll_53 ⟨(Nat.le_of_ble_eq_true rfl), (Nat.le_of_ble_eq_true rfl)⟩) (fun r53 u53 H locs w53 hP hD hS => ?_)
          obtain ⟨I53, A53, B53, C53, T53⟩ := u53
          have eI53 : I = I53 := w53.2.2.1.symm
          subst eI53
          have eA53 : A = A53 := w53.2.2.2.1.symm
          subst eA53
          have eC53 : C = C53 := w53.2.2.2.2.2.1.symm
          subst eC53
          have eT53 : T = T53 := w53.2.2.2.2.2.2.symm
          subst eT53
          refine lv_ior hx hb dX6_shortenAll_56 ?_
          refine lv_topi (fun x56 ex56 => ?_)
          refine lv_istore_n (lv' := [(3, .int x56), (6, .int (nI (to i))), (5, .int (nI (fr i))), (0, .ref (R 10)), (1, .ref (R 1)), (2, .int xo), (4, .int (nI i))]) hx hb dX6_shortenAll_57 rfl hl (by decide) rfl (fun ls hl => ?_)
          refine lv_iload_n hx hb dX6_shortenAll_58 rfl (lv_at hl 0 rfl) ?_
          refine lv_aload_n hx hb dX6_shortenAll_59 rfl (lv_at hl 3 rfl) ?_
          refine lv_iload hx hb dX6_shortenAll_60 (lv_at hl 1 rfl) ?_
          refine lv_iload hx hb dX6_shortenAll_62 (lv_at hl 2 rfl) ?_
          refine lv_iload hx hb dX6_shortenAll_64 (lv_at hl 6 rfl) ?_
          refine lv_aload_n hx hb dX6_shortenAll_66 rfl (lv_at hl 4 rfl) ?_
          refine va_getN (D := (dC, dI)) (ci := 2) (v := .ref (R 4)) (C := RX2) (T := TX2) (N := 5) hx hb hts hinX2 hown hK hP 1 rfl rfl 4 (by decide) (nwOK.f hN RX6 40 "CycleHouse$Graph" "weight" "[I" "CycleHouse" (by decide +kernel)) (fun _ h9 => h9) rfl dX6_shortenAll_67 ?_
          refine lv_iload hx hb dX6_shortenAll_70 (lv_at hl 6 rfl) ?_
          have h72 : vp_in (nI i) 40 := iin
          refine va_iald hx hb hK hP 4 0 rfl rfl h72 dX6_shortenAll_72 ?_
          refine lv_topi (fun x72 ex72 => ?_)
          have ex72 : x72 = A 4 (nI i).toNatClampNeg := ex72
          have ex72 : x72 = nI (wt i) := by rw [ex72, icl]; exact gi.2.2.1
          subst ex72
          refine ct_calli hD hS hA (va_runV (As := [.int (nI (to i)), .int (nI (fr i)), .int (nI i), .int (nI (wt i))]) (rest := [.int x56]) F ((k_X6_shorten l dC dI cI cJ cZ cII cJJ R I A B53 C T nv (sh1 (fr i) (to i) i (wt i) (shA fr to wt x2 i p2).1) (to i) (fr i) i (wt i) g2 w53.2.1 gi.2.1.2 gi.1.2 (by omega) gi.2.2.2) _) (cwV 4 hts gX6_shortenAll_X6_shorten rfl rfl rfl (by decide +kernel) ⟨(Nat.le_of_ble_eq_true rfl), (Nat.le_of_ble_eq_true rfl)⟩) (ct_preV 10 6 hK hN hP hD rfl rfl) rfl rfl hl.1 rfl (lv_room (Nat.le_of_ble_eq_true rfl)) dX6_shortenAll_73 ⟨(Nat.le_of_ble_eq_true rfl), (Nat.le_of_ble_eq_true rfl)⟩) (fun r73 u73 H locs w73 hP hD hS => ?_)
          obtain ⟨I73, A73, B73, C73, T73⟩ := u73
          have eI73 : I = I73 := w73.2.2.1.symm
          subst eI73
          have eA73 : A = A73 := w73.2.2.2.1.symm
          subst eA73
          have eC73 : C = C73 := w73.2.2.2.2.2.1.symm
          subst eC73
          have eT73 : T = T73 := w73.2.2.2.2.2.2.symm
          subst eT73
          refine lv_ior hx hb dX6_shortenAll_76 ?_
          refine lv_topi (fun x76 ex76 => ?_)
          refine lv_istore_n (lv' := [(3, .int x76), (6, .int (nI (to i))), (5, .int (nI (fr i))), (0, .ref (R 10)), (1, .ref (R 1)), (2, .int xo), (4, .int (nI i))]) hx hb dX6_shortenAll_77 rfl hl (by decide) rfl (fun ls hl => ?_)
          obtain ⟨x78, ex78⟩ : ∃ zz : Int32, zz = nI i + (1) := ⟨_, rfl⟩
          refine lv_iinc (v := x78) (lv' := [(4, .int x78), (3, .int x76), (6, .int (nI (to i))), (5, .int (nI (fr i))), (0, .ref (R 10)), (1, .ref (R 1)), (2, .int xo)]) hx hb dX6_shortenAll_78 hl (k := 6) rfl (by rw [ex78]; rfl) (by decide) rfl (fun ls hl => ?_)
          have ex78 : x78 = nI (i + 1) := by rw [ex78]; exact nI_1 i
          subst ex78
          refine lv_goto (tgt := 5) hx hb dX6_shortenAll_81 (by decide) ?_
          exact ih5 (i + 1) x76 B73 ls _ _ (by omega) ⟨by omega, by rw [ex76, ex56, ey, w53.1, w73.1, or_b, or_b, shA, if_neg c17], by rw [shA, if_neg c17]; exact w73.2.1, fun k h1 h2 => (w73.2.2.2.2.1 k h1 h2).trans ((w53.2.2.2.2.1 k h1 h2).trans (hB k h1 h2))⟩ hP hD hS (lv_sub hl [4, 5, 6, 1, 0] rfl)
  exact K5 _ 0 0 B ls _ _ (Nat.lt_succ_self _) ⟨Nat.zero_le _, rfl, hw, fun _ _ _ => rfl⟩ hP hD hS (lv_sub hl [2, 3, 4, 1, 0] rfl)
