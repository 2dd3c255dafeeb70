/-- what the basis's work leaves as it was -/
def fL (I : Nat → Int32) (A : Nat → Nat → Int32) (B : Nat → Nat → Int64) (C : Nat → Nat → Int32) (T : Nat → Nat → Int64) (u : sgH) : Prop :=
  (∀ k, k ≠ 6 → k ≠ 7 → u.1 k = I k) ∧ u.2.1 = A ∧ (∀ k, k ≠ 11 → k ≠ 12 → k ≠ 14 → k ≠ 15 → k ≠ 16 → k ≠ 17 → u.2.2.1 k = B k) ∧ u.2.2.2.1 = C ∧ u.2.2.2.2 = T
theorem fL.of {I I' : Nat → Int32} {A A' : Nat → Nat → Int32} {B B' : Nat → Nat → Int64} {C C' : Nat → Nat → Int32} {T T' : Nat → Nat → Int64} (h1 : ∀ k, k ≠ 6 → k ≠ 7 → I' k = I k) (h2 : A' = A) (h3 : ∀ k, k ≠ 11 → k ≠ 12 → k ≠ 14 → k ≠ 15 → k ≠ 16 → k ≠ 17 → B' k = B k) (h4 : C' = C) (h5 : T' = T) : fL I A B C T (I', A', B', C', T') := ⟨h1, h2, h3, h4, h5⟩
theorem fL.tr {I I1 : Nat → Int32} {A A1 : Nat → Nat → Int32} {B B1 : Nat → Nat → Int64} {C C1 : Nat → Nat → Int32} {T T1 : Nat → Nat → Int64} {u : sgH} (h : fL I A B C T (I1, A1, B1, C1, T1)) (h2 : fL I1 A1 B1 C1 T1 u) : fL I A B C T u :=
  ⟨fun k a b => (h2.1 k a b).trans (h.1 k a b), h2.2.1.trans h.2.1, fun k a b c d e f => (h2.2.2.1 k a b c d e f).trans (h.2.2.1 k a b c d e f), h2.2.2.2.1.trans h.2.2.2.1, h2.2.2.2.2.trans h.2.2.2.2⟩
theorem fL.rf {I : Nat → Int32} {A : Nat → Nat → Int32} {B : Nat → Nat → Int64} {C : Nat → Nat → Int32} {T : Nat → Nat → Int64} : fL I A B C T (I, A, B, C, T) := ⟨fun _ _ _ => rfl, rfl, fun _ _ _ _ _ _ _ => rfl, rfl, rfl⟩
theorem fW.fl {I : Nat → Int32} {A : Nat → Nat → Int32} {B : Nat → Nat → Int64} {C : Nat → Nat → Int32} {T : Nat → Nat → Int64} {u : sgH} (h : fW I A B C T u) : fL I A B C T u := ⟨fun k _ _ => by rw [h.1], h.2.1, fun k a b _ _ _ _ => h.2.2.1 k a b, h.2.2.2⟩
theorem gH.fl {nv ne : Nat} {fr to wt : Nat → Nat} {I : Nat → Int32} {A : Nat → Nat → Int32} {B : Nat → Nat → Int64} {C : Nat → Nat → Int32} {T : Nat → Nat → Int64} {u : sgH} (g : gH nv ne fr to wt I A) (h : fL I A B C T u) : gH nv ne fr to wt u.1 u.2.1 := by
  obtain ⟨g1, g2, g3, g4, g5, g6⟩ := g
  refine ⟨g1, g2, g3, by rw [h.1 0 (by decide) (by decide)]; exact g4, by rw [h.1 1 (by decide) (by decide)]; exact g5, ?_⟩
  rw [h.2.1]; exact g6
set_option maxHeartbeats 4000000 in
set_option maxRecDepth 100000 in
theorem k_X4_mark (l : Launch) (dC : Nat → ClassId) (dI : Nat → Nat → Nat) (cI cJ cZ cII cJJ : ClassId) (R : Nat → Nat) (I : Nat → Int32) (A : Nat → Nat → Int32) (B : Nat → Nat → Int64) (C : Nat → Nat → Int32) (T : Nat → Nat → Int64) (z : Nat) (h0 : z ≠ 0) (hz : z < 2 ^ 64) : ctL l (dC, dI) (tyL cI cJ cZ cII cJJ) (HW cI cJ cII cJJ R) yX4_mark wsX4_mark (0, 0) [.long (lN z)] (I, A, B, C, T) (fun r u => r = lN (2 ^ low z) ∧ u = (I, A, B, C, T)) := by
  refine ctL_intro (cc := cX4_mark) (maxL := 2) (by decide) rfl (Nat.le_of_ble_eq_true rfl) ?_
  intro p e s m below meth c ls Aa Q F hK hN hP hD hS hA hl hret
  have hx := F.1
  have hb := F.2.1
  have hown : s.vm.findClass RX4 = some m.cls := F.2.2.2.1
  have hts := F.2.2.2.2
  have hl : lv_has ls 2 [(0, .long (lN z))] := hl
  refine lv_lload_n hx hb dX4_mark_0 rfl (lv_at hl 0 rfl) ?_
  refine lv_lload_n hx hb dX4_mark_1 rfl (lv_at hl 0 rfl) ?_
  refine lv_lneg hx hb dX4_mark_2 ?_
  refine lv_topl (fun x2 ex2 => ?_)
  refine lv_land hx hb dX4_mark_3 ?_
  refine lv_topl (fun x3 ex3 => ?_)
  refine hret 4 ls _ _ x3 (I, A, B, C, T) dX4_mark_4 ?_ hP hD hS
  try dsimp only
  exact ⟨by rw [ex3, ex2]; exact nm_mark h0 hz, rfl⟩
set_option maxHeartbeats 4000000 in
set_option maxRecDepth 100000 in
theorem k_X4_lightestLeft (l : Launch) (dC : Nat → ClassId) (dI : Nat → Nat → Nat) (cI cJ cZ cII cJJ : ClassId) (R : Nat → Nat) (I : Nat → Int32) (A : Nat → Nat → Int32) (B : Nat → Nat → Int64) (C : Nat → Nat → Int32) (T : Nat → Nat → Int64) (s2 : GS) (hc : rC s2 I B) : ctI l (dC, dI) (tyL cI cJ cZ cII cJJ) (HW cI cJ cII cJJ R) yX4_lightestLeft wsX4_lightestLeft (0, 0) [.ref (R 13)] (I, A, B, C, T) (fun r u => r = oI (bL1 s2.2.1 s2.2.2 s2.1) ∧ u = (I, A, B, C, T)) := by
  refine ctI_intro (cc := cX4_lightestLeft) (maxL := 3) (by decide) rfl (Nat.le_of_ble_eq_true rfl) ?_
  intro p e s m below meth c ls Aa Q F hK hN hP hD hS hA hl hret
  have hx := F.1
  have hb := F.2.1
  have hown : s.vm.findClass RX4 = some m.cls := F.2.2.2.1
  have hts := F.2.2.2.2
  have hinX4 : ∀ w ∈ wsX40, w ∈ wsX4_lightestLeft := by decide +kernel
  have hf44 := hts (.fieldLink RX4 44 "CycleHouse$LightBasis" "candidates" "I") (by decide +kernel)
  have hf18 := hts (.fieldLink RX4 18 "CycleHouse$LightBasis" "left" "[J") (by decide +kernel)
  have hf21 := hts (.fieldLink RX4 21 "CycleHouse$LightBasis" "leftWeight" "[J") (by decide +kernel)
  have hl : lv_has ls 3 [(0, .ref (R 13))] := hl
  obtain ⟨h7, hcn, hc6⟩ := hc
  refine lv_iconst (v := (-1)) hx hb dX4_lightestLeft_0 (by decide) ?_
  refine lv_istore_n (lv' := [(1, .int ((-1))), (0, .ref (R 13))]) hx hb dX4_lightestLeft_1 rfl hl (by decide) rfl (fun ls hl => ?_)
  refine lv_iconst (v := 0) hx hb dX4_lightestLeft_2 (by decide) ?_
  refine lv_istore_n (lv' := [(2, .int 0), (1, .int ((-1))), (0, .ref (R 13))]) hx hb dX4_lightestLeft_3 rfl hl (by decide) rfl (fun ls hl => ?_)
  have K4 : ∀ (kn : Nat) (i : Nat) (bb : Int32) (ls : Array Slot) (H : Heap) (locs : List Loc), s2.1 - i < kn → (i ≤ s2.1 ∧ bb = oI (bL1 s2.2.1 s2.2.2 i)) → va_P (dC, dI) vwCl (HW cI cJ cII cJJ R (I, A, B, C, T)) H → va_D Aa (HW cI cJ cII cJJ R (I, A, B, C, T)) → va_S Aa s.heap H locs → lv_has ls 3 [(0, .ref (R 13)), (1, .int bb), (2, .int (nI i))] → W p l e (ctR (0, 0)) s m #[.ref (R 13)] below meth c H locs 0 0 Q (F0 m 4 ls []) := by
    intro kn
    induction kn with
    | zero => intro i bb ls H locs hmu; exact absurd hmu (Nat.not_lt_zero _)
    | succ kn ih4 =>
      intro i bb ls H locs mu4 inv4 hP hD hS hl
      obtain ⟨hi, eb⟩ := inv4
      refine lv_iload_n hx hb dX4_lightestLeft_4 rfl (lv_at hl 2 rfl) ?_
      refine lv_aload_n hx hb dX4_lightestLeft_5 rfl (lv_at hl 0 rfl) ?_
      refine va_get (D := (dC, dI)) (ci := 4) (v := .int (I 7)) (C := RX4) (T := TX4) (N := 6) hx hb hts hinX4 hown hK hP 13 rfl rfl 3 (by decide) hf44 (fun _ h9 => h9) rfl dX4_lightestLeft_6 ?_
      refine lv_icmp_ge (tgt := 52) hx hb dX4_lightestLeft_9 (by decide) (fun c9 => ?_) (fun c9 => ?_)
      · -- 9 taken
        rw [h7, nI_leI (by omega) (by omega)] at c9
        have hge : i = s2.1 := by omega
        rw [hge] at eb
        refine lv_iload_n hx hb dX4_lightestLeft_52 rfl (lv_at hl 1 rfl) ?_
        refine hret 53 ls _ _ bb (I, A, B, C, T) dX4_lightestLeft_53 rfl ?_ hP hD hS
        try dsimp only
        exact ⟨eb, rfl⟩
      · -- 9 not
        rw [h7, nI_leI (by omega) (by omega)] at c9
        have icl : (nI i).toNatClampNeg = i := nI_clamp (by omega)
        have iin : vp_in (nI i) 640 := vp_in_nI (by omega) (by omega)
        have hci := hc6 i (by omega)
        refine lv_aload_n hx hb dX4_lightestLeft_12 rfl (lv_at hl 0 rfl) ?_
        refine va_get (D := (dC, dI)) (ci := 4) (v := .ref (R 16)) (C := RX4) (T := TX4) (N := 6) hx hb hts hinX4 hown hK hP 13 rfl rfl 4 (by decide) hf18 (fun _ h9 => h9) rfl dX4_lightestLeft_13 ?_
        refine lv_iload_n hx hb dX4_lightestLeft_16 rfl (lv_at hl 2 rfl) ?_
        have h17 : vp_in (nI i) 640 := iin
        refine va_lald hx hb hK hP 16 1 rfl rfl h17 dX4_lightestLeft_17 ?_
        refine lv_topl (fun x17 ex17 => ?_)
        have ex17 : x17 = B 16 (nI i).toNatClampNeg := ex17
        have ex17 : x17 = lN (s2.2.1 i) := by rw [ex17, icl]; exact hci.1
        subst ex17
        refine lv_lconst (v := 0) hx hb dX4_lightestLeft_18 (by decide) ?_
        refine W.lcmp hx hb dX4_lightestLeft_19 ?_
        refine lv_if_eq (tgt := 46) hx hb dX4_lightestLeft_20 (by decide) (fun c20 => ?_) (fun c20 => ?_)
        · -- 20 taken
          rw [lg_cmp_eq] at c20
          have c20 : s2.2.1 i = 0 := (pk_lEQ (b := 0) (pwb hci.2.1 (by omega)) (by decide)).mp c20
          obtain ⟨x46, ex46⟩ : ∃ zz : Int32, zz = nI i + (1) := ⟨_, rfl⟩
          refine lv_iinc (v := x46) (lv' := [(2, .int x46), (0, .ref (R 13)), (1, .int bb)]) hx hb dX4_lightestLeft_46 hl (k := 2) rfl (by rw [ex46]; rfl) (by decide) rfl (fun ls hl => ?_)
          have ex46 : x46 = nI (i + 1) := by rw [ex46]; exact nI_1 i
          subst ex46
          refine lv_goto (tgt := 4) hx hb dX4_lightestLeft_49 (by decide) ?_
          exact ih4 (i + 1) bb ls _ _ (by omega) ⟨by omega, by rw [bL1_same c20]; exact eb⟩ hP hD hS (lv_sub hl [1, 2, 0] rfl)
        · -- 20 not
          rw [lg_cmp_eq] at c20
          have c20 : s2.2.1 i ≠ 0 := fun h => c20 (by rw [h]; rfl)
          refine lv_iload_n hx hb dX4_lightestLeft_23 rfl (lv_at hl 1 rfl) ?_
          refine lv_iconst (v := (-1)) hx hb dX4_lightestLeft_24 (by decide) ?_
          refine lv_icmp_eq (tgt := 44) hx hb dX4_lightestLeft_25 (by decide) (fun c25 => ?_) (fun c25 => ?_)
          · -- 25 taken
            have c25 : bL1 s2.2.1 s2.2.2 i = none := by
              cases h : bL1 s2.2.1 s2.2.2 i with
              | none => rfl
              | some b1 => rw [eb, h] at c25; exact absurd (show nI b1 < 0 by rw [show nI b1 = -1 from c25]; decide) (nI_pos (by have := (bL1_in h).1; omega))
            refine lv_iload_n hx hb dX4_lightestLeft_44 rfl (lv_at hl 2 rfl) ?_
            refine lv_istore_n (lv' := [(1, .int (nI i)), (0, .ref (R 13)), (2, .int (nI i))]) hx hb dX4_lightestLeft_45 rfl hl (by decide) rfl (fun ls hl => ?_)
            obtain ⟨x46, ex46⟩ : ∃ zz : Int32, zz = nI i + (1) := ⟨_, rfl⟩
            refine lv_iinc (v := x46) (lv' := [(2, .int x46), (1, .int (nI i)), (0, .ref (R 13))]) hx hb dX4_lightestLeft_46 hl (k := 2) rfl (by rw [ex46]; rfl) (by decide) rfl (fun ls hl => ?_)
            have ex46 : x46 = nI (i + 1) := by rw [ex46]; exact nI_1 i
            subst ex46
            refine lv_goto (tgt := 4) hx hb dX4_lightestLeft_49 (by decide) ?_
            exact ih4 (i + 1) (nI i) ls _ _ (by omega) ⟨by omega, by rw [bL1_first c20 c25]; rfl⟩ hP hD hS (lv_sub hl [2, 1, 0] rfl)
          · -- 25 not
            obtain ⟨b0, hbs⟩ : ∃ b0, bL1 s2.2.1 s2.2.2 i = some b0 := by
              cases h : bL1 s2.2.1 s2.2.2 i with
              | some b1 => exact ⟨b1, rfl⟩
              | none => rw [eb, h] at c25; exact absurd rfl c25
            have hb0 := (bL1_in hbs).1
            have eb2 : bb = nI b0 := by rw [eb, hbs]; rfl
            have bcl2 : bb.toNatClampNeg = b0 := by rw [eb2]; exact nI_clamp (by omega)
            have hcb := hc6 b0 (by omega)
            refine lv_aload_n hx hb dX4_lightestLeft_28 rfl (lv_at hl 0 rfl) ?_
            refine va_get (D := (dC, dI)) (ci := 4) (v := .ref (R 17)) (C := RX4) (T := TX4) (N := 6) hx hb hts hinX4 hown hK hP 13 rfl rfl 5 (by decide) hf21 (fun _ h9 => h9) rfl dX4_lightestLeft_29 ?_
            refine lv_iload_n hx hb dX4_lightestLeft_32 rfl (lv_at hl 2 rfl) ?_
            have h33 : vp_in (nI i) 640 := iin
            refine va_lald hx hb hK hP 17 1 rfl rfl h33 dX4_lightestLeft_33 ?_
            refine lv_topl (fun x33 ex33 => ?_)
            have ex33 : x33 = B 17 (nI i).toNatClampNeg := ex33
            have ex33 : x33 = lN (s2.2.2 i) := by rw [ex33, icl]; exact hci.2.2.1
            subst ex33
            refine lv_aload_n hx hb dX4_lightestLeft_34 rfl (lv_at hl 0 rfl) ?_
            refine va_get (D := (dC, dI)) (ci := 4) (v := .ref (R 17)) (C := RX4) (T := TX4) (N := 6) hx hb hts hinX4 hown hK hP 13 rfl rfl 5 (by decide) hf21 (fun _ h9 => h9) rfl dX4_lightestLeft_35 ?_
            refine lv_iload_n hx hb dX4_lightestLeft_38 rfl (lv_at hl 1 rfl) ?_
            have h39 : vp_in bb 640 := by rw [eb2]; exact vp_in_nI (by omega) (by omega)
            refine va_lald hx hb hK hP 17 1 rfl rfl h39 dX4_lightestLeft_39 ?_
            refine lv_topl (fun x39 ex39 => ?_)
            have ex39 : x39 = B 17 bb.toNatClampNeg := ex39
            have ex39 : x39 = lN (s2.2.2 b0) := by rw [ex39, bcl2]; exact hcb.2.2.1
            refine W.lcmp hx hb dX4_lightestLeft_40 ?_
            refine lv_if_ge (tgt := 46) hx hb dX4_lightestLeft_41 (by decide) (fun c41 => ?_) (fun c41 => ?_)
            · -- 41 taken
              rw [lg_cmp_ge] at c41
              rw [ex39, pk_lLE (by have := hcb.2.2.2; omega) (by have := hci.2.2.2; omega)] at c41
              obtain ⟨x46, ex46⟩ : ∃ zz : Int32, zz = nI i + (1) := ⟨_, rfl⟩
              refine lv_iinc (v := x46) (lv' := [(2, .int x46), (0, .ref (R 13)), (1, .int bb)]) hx hb dX4_lightestLeft_46 hl (k := 2) rfl (by rw [ex46]; rfl) (by decide) rfl (fun ls hl => ?_)
              have ex46 : x46 = nI (i + 1) := by rw [ex46]; exact nI_1 i
              subst ex46
              refine lv_goto (tgt := 4) hx hb dX4_lightestLeft_49 (by decide) ?_
              exact ih4 (i + 1) bb ls _ _ (by omega) ⟨by omega, by rw [bL1_keep c20 hbs (by omega), eb, hbs]⟩ hP hD hS (lv_sub hl [1, 2, 0] rfl)
            · -- 41 not
              rw [lg_cmp_ge] at c41
              rw [ex39, pk_lLE (by have := hcb.2.2.2; omega) (by have := hci.2.2.2; omega)] at c41
              refine lv_iload_n hx hb dX4_lightestLeft_44 rfl (lv_at hl 2 rfl) ?_
              refine lv_istore_n (lv' := [(1, .int (nI i)), (0, .ref (R 13)), (2, .int (nI i))]) hx hb dX4_lightestLeft_45 rfl hl (by decide) rfl (fun ls hl => ?_)
              obtain ⟨x46, ex46⟩ : ∃ zz : Int32, zz = nI i + (1) := ⟨_, rfl⟩
              refine lv_iinc (v := x46) (lv' := [(2, .int x46), (1, .int (nI i)), (0, .ref (R 13))]) hx hb dX4_lightestLeft_46 hl (k := 2) rfl (by rw [ex46]; rfl) (by decide) rfl (fun ls hl => ?_)
              have ex46 : x46 = nI (i + 1) := by rw [ex46]; exact nI_1 i
              subst ex46
              refine lv_goto (tgt := 4) hx hb dX4_lightestLeft_49 (by decide) ?_
              exact ih4 (i + 1) (nI i) ls _ _ (by omega) ⟨by omega, by rw [bL1_less c20 hbs (by omega)]; rfl⟩ hP hD hS (lv_sub hl [2, 1, 0] rfl)
  exact K4 _ 0 ((-1)) ls _ _ (Nat.lt_succ_self _) ⟨Nat.zero_le _, rfl⟩ hP hD hS (lv_sub hl [2, 1, 0] rfl)
set_option maxHeartbeats 4000000 in
set_option maxRecDepth 100000 in
theorem k_X4_strike (l : Launch) (dC : Nat → ClassId) (dI : Nat → Nat → Nat) (cI cJ cZ cII cJJ : ClassId) (R : Nat → Nat) (I : Nat → Int32) (A : Nat → Nat → Int32) (B : Nat → Nat → Int64) (C : Nat → Nat → Int32) (T : Nat → Nat → Int64) (cn : Nat) (lf : Nat → Nat) (pc2 : Nat) (h7 : I 7 = nI cn) (hcn : cn ≤ 640) (hlf : ∀ i, i < cn → B 16 i = lN (lf i) ∧ lf i < 2 ^ 40) (h0 : pc2 ≠ 0) (hp : pc2 < 2 ^ 40) : ctV l (dC, dI) (tyL cI cJ cZ cII cJJ) (HW cI cJ cII cJJ R) yX4_strike wsX4_strike (1, 30) [.ref (R 13), .long (lN pc2)] (I, A, B, C, T) (fun u => (∀ i, i < cn → u.2.2.1 16 i = lN (stk lf pc2 i)) ∧ u.1 = I ∧ u.2.1 = A ∧ (∀ k, k ≠ 16 → u.2.2.1 k = B k) ∧ u.2.2.2.1 = C ∧ u.2.2.2.2 = T) := by
  refine ctV_intro (cc := cX4_strike) (maxL := 4) (by decide) rfl (Nat.le_of_ble_eq_true rfl) ?_
  intro p e s m below meth c ls Aa Q F hK hN hP hD hS hA hl hret
  have hx := F.1
  have hb := F.2.1
  have hown : s.vm.findClass RX4 = some m.cls := F.2.2.2.1
  have hts := F.2.2.2.2
  have hinX4 : ∀ w ∈ wsX40, w ∈ wsX4_strike := by decide +kernel
  have hf44 := hts (.fieldLink RX4 44 "CycleHouse$LightBasis" "candidates" "I") (by decide +kernel)
  have hf18 := hts (.fieldLink RX4 18 "CycleHouse$LightBasis" "left" "[J") (by decide +kernel)
  have hl : lv_has ls 4 [(0, .ref (R 13)), (1, .long (lN pc2))] := hl
  refine lv_iconst (v := 0) hx hb dX4_strike_0 (by decide) ?_
  refine lv_istore_n (lv' := [(3, .int 0), (0, .ref (R 13)), (1, .long (lN pc2))]) hx hb dX4_strike_1 rfl hl (by decide) rfl (fun ls hl => ?_)
  have K2 : ∀ (kn : Nat) (i : Nat) (B_2 : Nat → Nat → Int64) (ls : Array Slot) (H : Heap) (locs : List Loc), cn - i < kn → (i ≤ cn ∧ (∀ j, j < i → B_2 16 j = lN (stk lf pc2 j)) ∧ (∀ j, i ≤ j → j < cn → B_2 16 j = lN (lf j)) ∧ ∀ k, k ≠ 16 → B_2 k = B k) → va_P (dC, dI) vwCl (HW cI cJ cII cJJ R (I, A, B_2, C, T)) H → va_D Aa (HW cI cJ cII cJJ R (I, A, B_2, C, T)) → va_S Aa s.heap H locs → lv_has ls 4 [(0, .ref (R 13)), (1, .long (lN pc2)), (3, .int (nI i))] → W p l e (ctR (1, 30)) s m #[.ref (R 13), .long (lN pc2)] below meth c H locs 0 0 Q (F0 m 2 ls []) := by
    intro kn
    induction kn with
    | zero => intro i B_2 ls H locs hmu; exact absurd hmu (Nat.not_lt_zero _)
    | succ kn ih2 =>
      intro i B_2 ls H locs mu2 inv2 hP hD hS hl
      obtain ⟨hi, b1, b2, b3⟩ := inv2
      refine lv_iload_n hx hb dX4_strike_2 rfl (lv_at hl 2 rfl) ?_
      refine lv_aload_n hx hb dX4_strike_3 rfl (lv_at hl 0 rfl) ?_
      refine va_get (D := (dC, dI)) (ci := 4) (v := .int (I 7)) (C := RX4) (T := TX4) (N := 6) hx hb hts hinX4 hown hK hP 13 rfl rfl 3 (by decide) hf44 (fun _ h9 => h9) rfl dX4_strike_4 ?_
      refine lv_icmp_ge (tgt := 42) hx hb dX4_strike_7 (by decide) (fun c7 => ?_) (fun c7 => ?_)
      · -- 7 taken
        rw [h7, nI_leI (by omega) (by omega)] at c7
        have hge : i = cn := by omega
        rw [hge] at b1
        refine hret 42 ls _ _ (I, A, B_2, C, T) dX4_strike_42 ?_ hP hD hS
        try dsimp only
        exact ⟨b1, rfl, rfl, b3, rfl, rfl⟩
      · -- 7 not
        rw [h7, nI_leI (by omega) (by omega)] at c7
        have icl : (nI i).toNatClampNeg = i := nI_clamp (by omega)
        have iin : vp_in (nI i) 640 := vp_in_nI (by omega) (by omega)
        have hl1 := (hlf i (by omega)).2
        have hlw := (low_ok h0 (Nat.lt_trans hp (by decide))).2.1
        refine lv_aload_n hx hb dX4_strike_10 rfl (lv_at hl 0 rfl) ?_
        refine va_get (D := (dC, dI)) (ci := 4) (v := .ref (R 16)) (C := RX4) (T := TX4) (N := 6) hx hb hts hinX4 hown hK hP 13 rfl rfl 4 (by decide) hf18 (fun _ h9 => h9) rfl dX4_strike_11 ?_
        refine lv_iload_n hx hb dX4_strike_14 rfl (lv_at hl 2 rfl) ?_
        have h15 : vp_in (nI i) 640 := iin
        refine va_lald hx hb hK hP 16 1 rfl rfl h15 dX4_strike_15 ?_
        refine lv_topl (fun x15 ex15 => ?_)
        have ex15 : x15 = B_2 16 (nI i).toNatClampNeg := ex15
        have ex15 : x15 = lN (lf i) := by rw [ex15, icl]; exact b2 i (Nat.le_refl i) (by omega)
        subst ex15
        refine lv_lload_n hx hb dX4_strike_16 rfl (lv_at hl 1 rfl) ?_
        refine ct_calll hD hS hA (va_runS (As := [.long (lN pc2)]) (rest := [.long (lN (lf i))]) F ((k_X4_mark l dC dI cI cJ cZ cII cJJ R I A B_2 C T pc2 h0 (Nat.lt_trans hp (by decide))) _) (va_cwS 1 hts gX4_strike_X4_mark rfl rfl rfl (by decide +kernel) ⟨(Nat.le_of_ble_eq_true rfl), (Nat.le_of_ble_eq_true rfl)⟩) (ct_preS hK hN hP hD) rfl rfl hl.1 rfl (lv_room (Nat.le_of_ble_eq_true rfl)) dX4_strike_17 ⟨(Nat.le_of_ble_eq_true rfl), (Nat.le_of_ble_eq_true rfl)⟩) (fun r17 u17 H locs w17 hP hD hS => ?_)
        obtain ⟨w17, rfl⟩ := w17
        have er17 : r17 = lN (2 ^ low pc2) := w17
        subst er17
        refine lv_land hx hb dX4_strike_20 ?_
        refine lv_topl (fun x20 ex20 => ?_)
        refine lv_lconst (v := 0) hx hb dX4_strike_21 (by decide) ?_
        refine W.lcmp hx hb dX4_strike_22 ?_
        refine lv_if_eq (tgt := 36) hx hb dX4_strike_23 (by decide) (fun c23 => ?_) (fun c23 => ?_)
        · -- 23 taken
          rw [lg_cmp_eq] at c23
          rw [ex20, and_pow (Nat.lt_trans hl1 (by decide)) hlw] at c23
          obtain ⟨x36, ex36⟩ : ∃ zz : Int32, zz = nI i + (1) := ⟨_, rfl⟩
          refine lv_iinc (v := x36) (lv' := [(3, .int x36), (0, .ref (R 13)), (1, .long (lN pc2))]) hx hb dX4_strike_36 hl (k := 2) rfl (by rw [ex36]; rfl) (by decide) rfl (fun ls hl => ?_)
          have ex36 : x36 = nI (i + 1) := by rw [ex36]; exact nI_1 i
          subst ex36
          refine lv_goto (tgt := 2) hx hb dX4_strike_39 (by decide) ?_
          exact ih2 (i + 1) B_2 ls _ _ (by omega) ⟨by omega, fun j hj => by
                by_cases e1 : j = i
                · subst e1; unfold stk; rw [if_neg (by rw [c23]; decide)]; exact b2 j (Nat.le_refl j) (by omega)
                · exact b1 j (by omega), fun j h1 h2 => b2 j (by omega) h2, b3⟩ hP hD hS (lv_sub hl [1, 2, 0] rfl)
        · -- 23 not
          rw [lg_cmp_eq] at c23
          rw [ex20, and_pow (Nat.lt_trans hl1 (by decide)) hlw] at c23
          have c23 : (lf i).testBit (low pc2) = true := by cases h : (lf i).testBit (low pc2) with | true => rfl | false => exact absurd h c23
          refine lv_aload_n hx hb dX4_strike_26 rfl (lv_at hl 0 rfl) ?_
          refine va_get (D := (dC, dI)) (ci := 4) (v := .ref (R 16)) (C := RX4) (T := TX4) (N := 6) hx hb hts hinX4 hown hK hP 13 rfl rfl 4 (by decide) hf18 (fun _ h9 => h9) rfl dX4_strike_27 ?_
          refine lv_iload_n hx hb dX4_strike_30 rfl (lv_at hl 2 rfl) ?_
          refine lv_dup2_11 hx hb dX4_strike_31 rfl rfl ?_
          have h32 : vp_in (nI i) 640 := iin
          refine va_lald hx hb hK hP 16 1 rfl rfl h32 dX4_strike_32 ?_
          refine lv_topl (fun x32 ex32 => ?_)
          have ex32 : x32 = B_2 16 (nI i).toNatClampNeg := ex32
          have ex32 : x32 = lN (lf i) := by rw [ex32, icl]; exact b2 i (Nat.le_refl i) (by omega)
          subst ex32
          refine lv_lload_n hx hb dX4_strike_33 rfl (lv_at hl 1 rfl) ?_
          refine lv_lxor hx hb dX4_strike_34 ?_
          refine lv_topl (fun x34 ex34 => ?_)
          have ex34 : x34 = lN (lf i ^^^ pc2) := by rw [ex34, lN_xor]
          subst ex34
          have h35 : vp_in (nI i) 640 := iin
          refine va_last hx hb hK hP hD hS 16 1 rfl rfl h35 dX4_strike_35 (fun H locs hP hD hS => ?_)
          obtain ⟨B35, eB35⟩ : ∃ zz : Nat → Nat → Int64, zz = va_up B_2 16 (vp_updL (B_2 16) (nI i).toNatClampNeg (lN (lf i ^^^ pc2))) := ⟨_, rfl⟩
          have hP : va_P (dC, dI) vwCl (HW cI cJ cII cJJ R (I, A, B35, C, T)) H := by rw [eB35]; exact hP
          have hD : va_D Aa (HW cI cJ cII cJJ R (I, A, B35, C, T)) := by rw [eB35]; exact hD
          obtain ⟨x36, ex36⟩ : ∃ zz : Int32, zz = nI i + (1) := ⟨_, rfl⟩
          refine lv_iinc (v := x36) (lv' := [(3, .int x36), (0, .ref (R 13)), (1, .long (lN pc2))]) hx hb dX4_strike_36 hl (k := 2) rfl (by rw [ex36]; rfl) (by decide) rfl (fun ls hl => ?_)
          have ex36 : x36 = nI (i + 1) := by rw [ex36]; exact nI_1 i
          subst ex36
          refine lv_goto (tgt := 2) hx hb dX4_strike_39 (by decide) ?_
          exact ih2 (i + 1) B35 ls _ _ (by omega) ⟨by omega, fun j hj => by
                rw [eB35, up_self, icl]
                by_cases e1 : j = i
                · subst e1; unfold stk; rw [pk_uLs, if_pos c23]
                · rw [pk_uLn e1]; exact b1 j (by omega), fun j h1 h2 => by rw [eB35, up_self, icl, pk_uLn (by omega)]; exact b2 j (by omega) h2, fun k hk => by rw [eB35, up_ne hk]; exact b3 k hk⟩ hP hD hS (lv_sub hl [1, 2, 0] rfl)
  exact K2 _ 0 B ls _ _ (Nat.lt_succ_self _) ⟨Nat.zero_le _, fun j h => absurd h (Nat.not_lt_zero _), fun j _ h => (hlf j h).1, fun _ _ => rfl⟩ hP hD hS (lv_sub hl [1, 2, 0] rfl)
set_option maxHeartbeats 4000000 in
set_option maxRecDepth 100000 in
theorem k_X4_isSumOfLighter (l : Launch) (dC : Nat → ClassId) (dI : Nat → Nat → Nat) (cI cJ cZ cII cJJ : ClassId) (R : Nat → Nat) (I : Nat → Int32) (A : Nat → Nat → Int32) (B : Nat → Nat → Int64) (C : Nat → Nat → Int32) (T : Nat → Nat → Int64) (s2 : FS) (z lim : Nat) (hr : rB s2 I B) (hz : z < 2 ^ 40) (hlim : lim < 2 ^ 62) : ctI l (dC, dI) (tyL cI cJ cZ cII cJJ) (HW cI cJ cII cJJ R) yX4_isSumOfLighter wsX4_isSumOfLighter (1, 30) [.ref (R 13), .long (lN z), .long (lN lim)] (I, A, B, C, T) (fun r u => r = (if isl s2 lim s2.1 z = 0 then 1 else 0) ∧ u = (I, A, B, C, T)) := by
  refine ctI_intro (cc := cX4_isSumOfLighter) (maxL := 8) (by decide) rfl (Nat.le_of_ble_eq_true rfl) ?_
  intro p e s m below meth c ls Aa Q F hK hN hP hD hS hA hl hret
  have hx := F.1
  have hb := F.2.1
  have hown : s.vm.findClass RX4 = some m.cls := F.2.2.2.1
  have hts := F.2.2.2.2
  have hinX4 : ∀ w ∈ wsX40, w ∈ wsX4_isSumOfLighter := by decide +kernel
  have hf28 := hts (.fieldLink RX4 28 "CycleHouse$LightBasis" "size" "I") (by decide +kernel)
  have hf15 := hts (.fieldLink RX4 15 "CycleHouse$LightBasis" "weight" "[J") (by decide +kernel)
  have hf9 := hts (.fieldLink RX4 9 "CycleHouse$LightBasis" "ring" "[J") (by decide +kernel)
  have hl : lv_has ls 8 [(0, .ref (R 13)), (1, .long (lN z)), (3, .long (lN lim))] := hl
  obtain ⟨h6, hsz, hr6⟩ := hr
  refine lv_lload_n hx hb dX4_isSumOfLighter_0 rfl (lv_at hl 1 rfl) ?_
  refine lv_lstore (lv' := [(5, .long (lN z)), (0, .ref (R 13)), (1, .long (lN z)), (3, .long (lN lim))]) hx hb dX4_isSumOfLighter_1 hl (by decide) rfl (fun ls hl => ?_)
  refine lv_iconst (v := 0) hx hb dX4_isSumOfLighter_3 (by decide) ?_
  refine lv_istore (lv' := [(7, .int 0), (5, .long (lN z)), (0, .ref (R 13)), (1, .long (lN z)), (3, .long (lN lim))]) hx hb dX4_isSumOfLighter_4 hl (by decide) rfl (fun ls hl => ?_)
  have K6 : ∀ (kn : Nat) (i : Nat) (y : Int64) (ls : Array Slot) (H : Heap) (locs : List Loc), s2.1 - i < kn → (i ≤ s2.1 ∧ y = lN (isl s2 lim i z) ∧ isl s2 lim i z < 2 ^ 40) → va_P (dC, dI) vwCl (HW cI cJ cII cJJ R (I, A, B, C, T)) H → va_D Aa (HW cI cJ cII cJJ R (I, A, B, C, T)) → va_S Aa s.heap H locs → lv_has ls 8 [(0, .ref (R 13)), (1, .long (lN z)), (3, .long (lN lim)), (5, .long y), (7, .int (nI i))] → W p l e (ctR (1, 30)) s m #[.ref (R 13), .long (lN z), .long (lN lim)] below meth c H locs 0 0 Q (F0 m 6 ls []) := by
    intro kn
    induction kn with
    | zero => intro i y ls H locs hmu; exact absurd hmu (Nat.not_lt_zero _)
    | succ kn ih6 =>
      intro i y ls H locs mu6 inv6 hP hD hS hl
      obtain ⟨hi, ey, hyl⟩ := inv6
      refine lv_iload hx hb dX4_isSumOfLighter_6 (lv_at hl 4 rfl) ?_
      refine lv_aload_n hx hb dX4_isSumOfLighter_8 rfl (lv_at hl 0 rfl) ?_
      refine va_get (D := (dC, dI)) (ci := 4) (v := .int (I 6)) (C := RX4) (T := TX4) (N := 6) hx hb hts hinX4 hown hK hP 13 rfl rfl 0 (by decide) hf28 (fun _ h9 => h9) rfl dX4_isSumOfLighter_9 ?_
      refine lv_icmp_ge (tgt := 63) hx hb dX4_isSumOfLighter_12 (by decide) (fun c12 => ?_) (fun c12 => ?_)
      · -- 12 taken
        rw [h6, nI_leI (by omega) (by omega)] at c12
        have hge : i = s2.1 := by omega
        rw [hge] at ey hyl
        refine lv_lload hx hb dX4_isSumOfLighter_63 (lv_at hl 3 rfl) ?_
        refine lv_lconst (v := 0) hx hb dX4_isSumOfLighter_65 (by decide) ?_
        refine W.lcmp hx hb dX4_isSumOfLighter_66 ?_
        refine lv_if_ne (tgt := 74) hx hb dX4_isSumOfLighter_67 (by decide) (fun c67 => ?_) (fun c67 => ?_)
        · -- 67 taken
          rw [lg_cmp_eq] at c67
          have c67 : ¬ isl s2 lim s2.1 z = 0 := fun h => c67 (by rw [ey, h]; rfl)
          refine lv_iconst (v := 0) hx hb dX4_isSumOfLighter_74 (by decide) ?_
          refine hret 75 ls _ _ 0 (I, A, B, C, T) dX4_isSumOfLighter_75 rfl ?_ hP hD hS
          try dsimp only
          exact ⟨by rw [if_neg c67], rfl⟩
        · -- 67 not
          rw [lg_cmp_eq] at c67
          rw [ey] at c67
          have c67 : isl s2 lim s2.1 z = 0 := (pk_lEQ (b := 0) (pwb hyl (by omega)) (by decide)).mp c67
          refine lv_iconst (v := 1) hx hb dX4_isSumOfLighter_70 (by decide) ?_
          refine lv_goto (tgt := 75) hx hb dX4_isSumOfLighter_71 (by decide) ?_
          refine hret 75 ls _ _ 1 (I, A, B, C, T) dX4_isSumOfLighter_75 rfl ?_ hP hD hS
          try dsimp only
          exact ⟨by rw [if_pos c67], rfl⟩
      · -- 12 not
        rw [h6, nI_leI (by omega) (by omega)] at c12
        have icl : (nI i).toNatClampNeg = i := nI_clamp (by omega)
        have iin : vp_in (nI i) 14 := vp_in_nI (by omega) (by omega)
        have hri := hr6 i (by omega)
        have hlw := (low_ok hri.2.2.1 (Nat.lt_trans hri.2.1 (by decide))).2.1
        refine lv_aload_n hx hb dX4_isSumOfLighter_15 rfl (lv_at hl 0 rfl) ?_
        refine va_get (D := (dC, dI)) (ci := 4) (v := .ref (R 15)) (C := RX4) (T := TX4) (N := 6) hx hb hts hinX4 hown hK hP 13 rfl rfl 2 (by decide) hf15 (fun _ h9 => h9) rfl dX4_isSumOfLighter_16 ?_
        refine lv_iload hx hb dX4_isSumOfLighter_19 (lv_at hl 4 rfl) ?_
        have h21 : vp_in (nI i) 14 := iin
        refine va_lald hx hb hK hP 15 1 rfl rfl h21 dX4_isSumOfLighter_21 ?_
        refine lv_topl (fun x21 ex21 => ?_)
        have ex21 : x21 = B 15 (nI i).toNatClampNeg := ex21
        have ex21 : x21 = lN (s2.2.2.1 i) := by rw [ex21, icl]; exact hri.2.2.2.1
        subst ex21
        refine lv_lload_n hx hb dX4_isSumOfLighter_22 rfl (lv_at hl 2 rfl) ?_
        refine W.lcmp hx hb dX4_isSumOfLighter_23 ?_
        refine lv_if_ge (tgt := 57) hx hb dX4_isSumOfLighter_24 (by decide) (fun c24 => ?_) (fun c24 => ?_)
        · -- 24 taken
          rw [lg_cmp_ge] at c24
          rw [pk_lLE (by omega) (by have := hri.2.2.2.2; omega)] at c24
          obtain ⟨x57, ex57⟩ : ∃ zz : Int32, zz = nI i + (1) := ⟨_, rfl⟩
          refine lv_iinc (v := x57) (lv' := [(7, .int x57), (0, .ref (R 13)), (1, .long (lN z)), (3, .long (lN lim)), (5, .long y)]) hx hb dX4_isSumOfLighter_57 hl (k := 4) rfl (by rw [ex57]; rfl) (by decide) rfl (fun ls hl => ?_)
          have ex57 : x57 = nI (i + 1) := by rw [ex57]; exact nI_1 i
          subst ex57
          refine lv_goto (tgt := 6) hx hb dX4_isSumOfLighter_60 (by decide) ?_
          exact ih6 (i + 1) y ls _ _ (by omega) ⟨by omega, by rw [isl, if_neg (fun h => by omega)]; exact ey, by rw [isl, if_neg (fun h => by omega)]; exact hyl⟩ hP hD hS (lv_sub hl [1, 2, 3, 4, 0] rfl)
        · -- 24 not
          rw [lg_cmp_ge] at c24
          rw [pk_lLE (by omega) (by have := hri.2.2.2.2; omega)] at c24
          refine lv_lload hx hb dX4_isSumOfLighter_27 (lv_at hl 3 rfl) ?_
          refine lv_aload_n hx hb dX4_isSumOfLighter_29 rfl (lv_at hl 0 rfl) ?_
          refine va_get (D := (dC, dI)) (ci := 4) (v := .ref (R 14)) (C := RX4) (T := TX4) (N := 6) hx hb hts hinX4 hown hK hP 13 rfl rfl 1 (by decide) hf9 (fun _ h9 => h9) rfl dX4_isSumOfLighter_30 ?_
          refine lv_iload hx hb dX4_isSumOfLighter_33 (lv_at hl 4 rfl) ?_
          have h35 : vp_in (nI i) 14 := iin
          refine va_lald hx hb hK hP 14 1 rfl rfl h35 dX4_isSumOfLighter_35 ?_
          refine lv_topl (fun x35 ex35 => ?_)
          have ex35 : x35 = B 14 (nI i).toNatClampNeg := ex35
          have ex35 : x35 = lN (s2.2.1 i) := by rw [ex35, icl]; exact hri.1
          subst ex35
          refine ct_calll hD hS hA (va_runS (As := [.long (lN (s2.2.1 i))]) (rest := [.long y]) F ((k_X4_mark l dC dI cI cJ cZ cII cJJ R I A B C T (s2.2.1 i) hri.2.2.1 (Nat.lt_trans hri.2.1 (by decide))) _) (va_cwS 1 hts gX4_isSumOfLighter_X4_mark rfl rfl rfl (by decide +kernel) ⟨(Nat.le_of_ble_eq_true rfl), (Nat.le_of_ble_eq_true rfl)⟩) (ct_preS hK hN hP hD) rfl rfl hl.1 rfl (lv_room (Nat.le_of_ble_eq_true rfl)) dX4_isSumOfLighter_36 ⟨(Nat.le_of_ble_eq_true rfl), (Nat.le_of_ble_eq_true rfl)⟩) (fun r36 u36 H locs w36 hP hD hS => ?_)
          obtain ⟨w36, rfl⟩ := w36
          have er36 : r36 = lN (2 ^ low (s2.2.1 i)) := w36
          subst er36
          refine lv_land hx hb dX4_isSumOfLighter_39 ?_
          refine lv_topl (fun x39 ex39 => ?_)
          refine lv_lconst (v := 0) hx hb dX4_isSumOfLighter_40 (by decide) ?_
          refine W.lcmp hx hb dX4_isSumOfLighter_41 ?_
          refine lv_if_eq (tgt := 57) hx hb dX4_isSumOfLighter_42 (by decide) (fun c42 => ?_) (fun c42 => ?_)
          · -- 42 taken
            rw [lg_cmp_eq] at c42
            rw [ex39, ey, and_pow (Nat.lt_trans hyl (by decide)) hlw] at c42
            obtain ⟨x57, ex57⟩ : ∃ zz : Int32, zz = nI i + (1) := ⟨_, rfl⟩
            refine lv_iinc (v := x57) (lv' := [(7, .int x57), (0, .ref (R 13)), (1, .long (lN z)), (3, .long (lN lim)), (5, .long y)]) hx hb dX4_isSumOfLighter_57 hl (k := 4) rfl (by rw [ex57]; rfl) (by decide) rfl (fun ls hl => ?_)
            have ex57 : x57 = nI (i + 1) := by rw [ex57]; exact nI_1 i
            subst ex57
            refine lv_goto (tgt := 6) hx hb dX4_isSumOfLighter_60 (by decide) ?_
            exact ih6 (i + 1) y ls _ _ (by omega) ⟨by omega, by rw [isl, if_neg (fun h => by rw [c42] at h; exact absurd h.2 (by decide))]; exact ey, by rw [isl, if_neg (fun h => by rw [c42] at h; exact absurd h.2 (by decide))]; exact hyl⟩ hP hD hS (lv_sub hl [1, 2, 3, 4, 0] rfl)
          · -- 42 not
            rw [lg_cmp_eq] at c42
            rw [ex39, ey, and_pow (Nat.lt_trans hyl (by decide)) hlw] at c42
            have c42 : (isl s2 lim i z).testBit (low (s2.2.1 i)) = true := by cases h : (isl s2 lim i z).testBit (low (s2.2.1 i)) with | true => rfl | false => exact absurd h c42
            refine lv_lload hx hb dX4_isSumOfLighter_45 (lv_at hl 3 rfl) ?_
            refine lv_aload_n hx hb dX4_isSumOfLighter_47 rfl (lv_at hl 0 rfl) ?_
            refine va_get (D := (dC, dI)) (ci := 4) (v := .ref (R 14)) (C := RX4) (T := TX4) (N := 6) hx hb hts hinX4 hown hK hP 13 rfl rfl 1 (by decide) hf9 (fun _ h9 => h9) rfl dX4_isSumOfLighter_48 ?_
            refine lv_iload hx hb dX4_isSumOfLighter_51 (lv_at hl 4 rfl) ?_
            have h53 : vp_in (nI i) 14 := iin
            refine va_lald hx hb hK hP 14 1 rfl rfl h53 dX4_isSumOfLighter_53 ?_
            refine lv_topl (fun x53 ex53 => ?_)
            have ex53 : x53 = B 14 (nI i).toNatClampNeg := ex53
            have ex53 : x53 = lN (s2.2.1 i) := by rw [ex53, icl]; exact hri.1
            subst ex53
            refine lv_lxor hx hb dX4_isSumOfLighter_54 ?_
            refine lv_topl (fun x54 ex54 => ?_)
            refine lv_lstore (lv' := [(5, .long x54), (0, .ref (R 13)), (1, .long (lN z)), (3, .long (lN lim)), (7, .int (nI i))]) hx hb dX4_isSumOfLighter_55 hl (by decide) rfl (fun ls hl => ?_)
            obtain ⟨x57, ex57⟩ : ∃ zz : Int32, zz = nI i + (1) := ⟨_, rfl⟩
            refine lv_iinc (v := x57) (lv' := [(7, .int x57), (5, .long x54), (0, .ref (R 13)), (1, .long (lN z)), (3, .long (lN lim))]) hx hb dX4_isSumOfLighter_57 hl (k := 4) rfl (by rw [ex57]; rfl) (by decide) rfl (fun ls hl => ?_)
            have ex57 : x57 = nI (i + 1) := by rw [ex57]; exact nI_1 i
            subst ex57
            refine lv_goto (tgt := 6) hx hb dX4_isSumOfLighter_60 (by decide) ?_
            exact ih6 (i + 1) x54 ls _ _ (by omega) ⟨by omega, by rw [isl, if_pos ⟨by omega, c42⟩, ex54, ey, lN_xor], by rw [isl, if_pos ⟨by omega, c42⟩]; exact Nat.xor_lt_two_pow hyl hri.2.1⟩ hP hD hS (lv_sub hl [2, 3, 4, 1, 0] rfl)
  exact K6 _ 0 (lN z) ls _ _ (Nat.lt_succ_self _) ⟨Nat.zero_le _, rfl, hz⟩ hP hD hS (lv_sub hl [2, 3, 4, 1, 0] rfl)
