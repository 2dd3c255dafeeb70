theorem and15 (x : Int32) : ∃ k, k < 16 ∧ x &&& 15 = nI k := by
  refine ⟨x.toBitVec.toNat % 16, Nat.mod_lt _ (by decide), ?_⟩
  apply Int32.toBitVec_inj.mp
  rw [Int32.toBitVec_and]
  show x.toBitVec &&& 15#32 = BitVec.ofNat 32 (x.toBitVec.toNat % 16)
  apply BitVec.eq_of_toNat_eq
  rw [BitVec.toNat_and]
  show x.toBitVec.toNat &&& (2 ^ 4 - 1) = _
  rw [Nat.and_two_pow_sub_one_eq_mod, BitVec.toNat_ofNat]
  omega
theorem lw_gt {j L : Nat} (hj : j ≤ 2048) (hL : L ≤ 2048) : Int32.ofNat L - 4 < nI j ↔ L < j + 4 := by
  rw [Int32.lt_iff_toInt_lt, Int32.toInt_sub]
  have h1 : (Int32.ofNat L).toInt = (L : Int) := Int32.toInt_ofNat_of_lt (by omega)
  have h2 : (nI j).toInt = (j : Int) := Int32.toInt_ofNat_of_lt (by omega)
  have h3 : (4 : Int32).toInt = 4 := rfl
  rw [h1, h2, h3, Int.bmod_eq_of_le (by omega) (by omega)]
  omega
set_option maxHeartbeats 8000000 in
set_option maxRecDepth 100000 in
theorem law_loop {p : Program} {l : Launch} {e : Env} {s : State} {m : MethodId} {below : List Frame} {meth : Method} {c : Code} {b L : Nat} {xs : Nat → Int32} {dC : Nat → ClassId} {dI : Nat → Nat → Nat} {cI cJ cZ cII cJJ : ClassId} (LC : lwC p l s m meth c b L xs dC dI cI cJ cZ cII cJJ) (hr : meth.sig.returnType = ret) (hlocks : meth.locks = false) (R R2 : Nat → Nat) (o : Nat) : ∀ (n j : Nat) (uH : sgH) (w : Nat → Int64) (uM : sgM) (cells slots : Nat) (H : Heap) (locs : List Loc) (ls : Array Slot), L ≤ j + 4 * n + 3 → j ≤ L → SY uH uM → cells + 2 * n ≤ 601024 → slots + 12 * n ≤ 7293034 → va_P (dC, dI) vwCl (LW cI cJ cII cJJ R o (uH, w) ++ MW cI cJ cZ R2 uM) H → va_D (fun q => s.heap.size ≤ q) (LW cI cJ cII cJJ R o (uH, w) ++ MW cI cJ cZ R2 uM) → va_S (fun q => s.heap.size ≤ q) s.heap H locs → lv_has ls 8 [(0, .ref b), (1, .ref (R 0)), (2, .ref (R2 0)), (3, .ref o), (4, .int (nI j))] → W p l e room_1 s m #[Value.ref b] below meth c H locs cells slots (lw_Z below #[Value.ref b] s) (F0 m 23 ls []) := by
  have LC0 := LC
  obtain ⟨F, hK, hN, hXx, hX, hbl, hlt, hL⟩ := LC0
  have hx := F.1
  have hb := F.2.1
  have hbA : ¬ (fun q => s.heap.size ≤ q) b := Nat.not_le.mpr hbl
  intro n
  induction n with
  | zero =>
    intro j uH w uM cells slots H locs ls hn hj hsy hc hsl hP hD hS hl
    refine lv_iload hx hb dL_law_23 (lv_at hl 4 rfl) ?_
    refine lv_aload_n hx hb dL_law_25 rfl (lv_at hl 0 rfl) ?_
    refine va_slen hx hb hX hbl hbA hS dL_law_26 ?_
    refine lv_iconst (v := 4) hx hb dL_law_27 (by decide) ?_
    refine lv_isub hx hb dL_law_28 ?_
    refine lv_icmp_gt (tgt := 1087) hx hb dL_law_29 (by decide) (fun c29 => ?_) (fun c29 => ?_)
    · -- the end
      refine lv_iconst (v := 1) hx hb dL_law_1087 (by decide) ?_
      refine va_forget (fun q hq => hS.2.2 q hq) ?_
      refine W.widen (by omega) (by omega) (lw_ret hx hb hr hlocks dL_law_1088)
    · exact absurd ((lw_gt (by omega) hL).mpr (by omega)) c29
  | succ n ih =>
    intro j uH w uM cells slots H locs ls hn hj hsy hc hsl hP hD hS hl
    refine lv_iload hx hb dL_law_23 (lv_at hl 4 rfl) ?_
    refine lv_aload_n hx hb dL_law_25 rfl (lv_at hl 0 rfl) ?_
    refine va_slen hx hb hX hbl hbA hS dL_law_26 ?_
    refine lv_iconst (v := 4) hx hb dL_law_27 (by decide) ?_
    refine lv_isub hx hb dL_law_28 ?_
    refine lv_icmp_gt (tgt := 1087) hx hb dL_law_29 (by decide) (fun c29 => ?_) (fun c29 => ?_)
    · -- the end
      refine lv_iconst (v := 1) hx hb dL_law_1087 (by decide) ?_
      refine va_forget (fun q hq => hS.2.2 q hq) ?_
      refine W.widen (by omega) (by omega) (lw_ret hx hb hr hlocks dL_law_1088)
    · have hj4 : j + 4 ≤ L := Nat.le_of_not_lt (fun q => c29 ((lw_gt (by omega) hL).mpr q))
      have kk : ∀ (ls : Array Slot) (H : Heap) (locs : List Loc) (uH : sgH) (w : Nat → Int64) (uM : sgM), SY uH uM → va_P (dC, dI) vwCl (LW cI cJ cII cJJ R o (uH, w) ++ MW cI cJ cZ R2 uM) H → va_D (fun q => s.heap.size ≤ q) (LW cI cJ cII cJJ R o (uH, w) ++ MW cI cJ cZ R2 uM) → va_S (fun q => s.heap.size ≤ q) s.heap H locs → lv_has ls 8 [(0, .ref b), (1, .ref (R 0)), (2, .ref (R2 0)), (3, .ref o), (4, .int (nI j))] → W p l e room_1 s m #[Value.ref b] below meth c H locs (cells + 2) (slots + 12) (lw_Z below #[Value.ref b] s) (F0 m 1081 ls []) := by
        intro ls H locs uH w uM hsy hP hD hS hl
        obtain ⟨x9, ex9⟩ : ∃ z9 : Int32, z9 = nI j + (4) := ⟨_, rfl⟩
        refine lv_iinc (v := x9) (lv' := [(4, .int x9), (0, .ref b), (1, .ref (R 0)), (2, .ref (R2 0)), (3, .ref o)]) hx hb dL_law_1081 hl (k := 4) rfl (by rw [ex9]; rfl) (by decide) rfl (fun ls hl => ?_)
        have ex9 : x9 = nI (j + 4) := by rw [ex9]; exact nI_add j 4
        subst ex9
        refine lv_goto (tgt := 23) hx hb dL_law_1084 (by decide) ?_
        exact ih (j + 4) uH w uM _ _ H locs ls (by omega) (by omega) hsy (by omega) (by omega) hP hD hS (lv_sub hl [1, 2, 3, 4, 0] rfl)
      refine lv_aload_n hx hb dL_law_32 rfl (lv_at hl 0 rfl) ?_
      refine lv_iload hx hb dL_law_33 (lv_at hl 4 rfl) ?_
      refine va_sld hx hb hX hbl hbA hS (vp_in_nI (show j < L by omega) (by omega)) dL_law_35 ?_
      rw [nI_clamp (show j < 2 ^ 31 by omega)]
      refine lv_bipush (v := 15) hx hb dL_law_36 (by decide) ?_
      refine lv_iand hx hb dL_law_38 ?_
      refine lv_topi (fun x38 ex38 => ?_)
      obtain ⟨k, hk, ek⟩ := and15 (xs j)
      rw [ek] at ex38
      subst ex38
      have hsw : k = 0 ∨ k = 1 ∨ k = 2 ∨ k = 3 ∨ k = 4 ∨ k = 5 ∨ k = 6 ∨ k = 7 ∨ k = 8 ∨ k = 9 ∨ k = 10 ∨ k = 11 ∨ k = 12 ∨ k = 13 ∨ k = 14 ∨ k = 15 := by omega
      rcases hsw with rfl | rfl | rfl | rfl | rfl | rfl | rfl | rfl | rfl | rfl | rfl | rfl | rfl | rfl | rfl | rfl
      · refine lv_tableIn (off := 73) (tgt := 112) hx hb dL_law_39 (by decide) (by decide) rfl (by decide) ?_
        exact law_reset LC R R2 o j hj4 uH w uM hsy cells slots (by omega) (by omega) H locs ls hP hD hS hl kk
      · refine lv_tableIn (off := 129) (tgt := 168) hx hb dL_law_39 (by decide) (by decide) rfl (by decide) ?_
        exact law_edge LC R R2 o j hj4 uH w uM hsy cells slots (by omega) (by omega) H locs ls hP hD hS hl kk
      · refine lv_tableIn (off := 209) (tgt := 248) hx hb dL_law_39 (by decide) (by decide) rfl (by decide) ?_
        exact law_drop LC R R2 o j hj4 uH w uM hsy cells slots (by omega) (by omega) H locs ls hP hD hS hl kk
      · refine lv_tableIn (off := 253) (tgt := 292) hx hb dL_law_39 (by decide) (by decide) rfl (by decide) ?_
        exact law_forests LC R R2 o j hj4 uH w uM hsy cells slots (by omega) (by omega) H locs ls hP hD hS hl kk
      · refine lv_tableIn (off := 340) (tgt := 379) hx hb dL_law_39 (by decide) (by decide) rfl (by decide) ?_
        exact law_lightest LC R R2 o j hj4 uH w uM hsy cells slots (by omega) (by omega) H locs ls hP hD hS hl kk
      · refine lv_tableIn (off := 427) (tgt := 466) hx hb dL_law_39 (by decide) (by decide) rfl (by decide) ?_
        exact law_isCycle LC R R2 o j hj4 uH w uM hsy cells slots (by omega) (by omega) H locs ls hP hD hS hl kk
      · refine lv_tableIn (off := 515) (tgt := 554) hx hb dL_law_39 (by decide) (by decide) rfl (by decide) ?_
        exact law_through LC R R2 o j hj4 uH w uM hsy cells slots (by omega) (by omega) H locs ls hP hD hS hl kk
      · refine lv_tableIn (off := 570) (tgt := 609) hx hb dL_law_39 (by decide) (by decide) rfl (by decide) ?_
        exact law_basis LC R R2 o j hj4 uH w uM hsy cells slots (by omega) (by omega) H locs ls hP hD hS hl kk
      · refine lv_tableIn (off := 625) (tgt := 664) hx hb dL_law_39 (by decide) (by decide) rfl (by decide) ?_
        exact law_belongs LC R R2 o j hj4 uH w uM hsy cells slots (by omega) (by omega) H locs ls hP hD hS hl kk
      · refine lv_tableIn (off := 720) (tgt := 759) hx hb dL_law_39 (by decide) (by decide) rfl (by decide) ?_
        exact law_cycles LC R R2 o j hj4 uH w uM hsy cells slots (by omega) (by omega) H locs ls hP hD hS hl kk
      · refine lv_tableIn (off := 733) (tgt := 772) hx hb dL_law_39 (by decide) (by decide) rfl (by decide) ?_
        exact law_light LC R R2 o j hj4 uH w uM hsy cells slots (by omega) (by omega) H locs ls hP hD hS hl kk
      · refine lv_tableIn (off := 790) (tgt := 829) hx hb dL_law_39 (by decide) (by decide) rfl (by decide) ?_
        exact law_add LC R R2 o j hj4 uH w uM hsy cells slots (by omega) (by omega) H locs ls hP hD hS hl kk
      · refine lv_tableIn (off := 878) (tgt := 917) hx hb dL_law_39 (by decide) (by decide) rfl (by decide) ?_
        exact law_clear LC R R2 o j hj4 uH w uM hsy cells slots (by omega) (by omega) H locs ls hP hD hS hl kk
      · refine lv_tableIn (off := 891) (tgt := 930) hx hb dL_law_39 (by decide) (by decide) rfl (by decide) ?_
        exact law_spans LC R R2 o j hj4 uH w uM hsy cells slots (by omega) (by omega) H locs ls hP hD hS hl kk
      · refine lv_tableIn (off := 986) (tgt := 1025) hx hb dL_law_39 (by decide) (by decide) rfl (by decide) ?_
        by_cases q0 : xs (j + 1) < 0
        · exact law_lookOut LC R R2 o j hj4 uH w uM hsy (.inl q0) (.inl (by rw [Int32.lt_iff_toInt_lt] at q0; exact q0)) cells slots (by omega) (by omega) H locs ls hP hD hS hl kk
        · by_cases q1 : 8 < xs (j + 1)
          · exact law_lookOut LC R R2 o j hj4 uH w uM hsy (.inr q1) (.inr (by rw [Int32.lt_iff_toInt_lt] at q1; exact q1)) cells slots (by omega) (by omega) H locs ls hP hD hS hl kk
          · obtain ⟨k9, h91, h92⟩ := nI_of q0
            have h93 : k9 < 9 := by rw [h92, show (8 : Int32) = nI 8 from rfl, nI_ltI (by decide) h91] at q1; omega
            exact law_lookIn LC R R2 o j hj4 uH w uM hsy k9 h92 h93 cells slots (by omega) (by omega) H locs ls hP hD hS hl kk
      · refine lv_tableOut (tgt := 1081) hx hb dL_law_39 (by decide) (by decide) ?_
        exact W.widen (Nat.le_add_right _ _) (Nat.le_add_right _ _) (kk ls H locs uH w uM hsy hP hD hS hl)
