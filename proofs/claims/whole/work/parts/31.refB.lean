set_option maxHeartbeats 4000000 in
set_option maxRecDepth 100000 in
theorem k_X8_joins (l : Launch) (dC : Nat → ClassId) (dI : Nat → Nat → Nat) (cI cJ cZ cII cJJ : ClassId) (R : Nat → Nat) (I : Nat → Int32) (A : Nat → Nat → Int32) (B : Nat → Nat → Int64) (nv ne : Nat) (fr to wt : Nat → Nat) (k : Nat) (q : JS) (g : gM nv ne fr to wt I A) (hk : k < ne) (hq : rJ nv q I A B) (hd : q.2.2.1 < 40) : ctI l (dC, dI) (tyL cI cJ cZ cII cJJ) (MW cI cJ cZ R) yX8_joins wsX8_joins (0, 0) [.ref (R 0), .int (nI k)] (I, A, B) (fun r u => r = (if q.1 (fr k) = q.1 (to k) then 0 else 1) ∧ rJ nv (jStep (fr k) (to k) k q) u.1 u.2.1 u.2.2 ∧ fJ I A B u) := by
  refine ctI_intro (cc := cX8_joins) (maxL := 8) (by decide) rfl (Nat.le_of_ble_eq_true rfl) ?_
  intro p e s m below meth c ls Aa Q F hK hN hP hD hS hA hl hret
  have hx := F.1
  have hb := F.2.1
  have hown : s.vm.findClass RX8 = some m.cls := F.2.2.2.1
  have hts := F.2.2.2.2
  have hinX8 : ∀ w ∈ wsX80, w ∈ wsX8_joins := by decide +kernel
  have hf13 := hts (.fieldLink RX8 13 "CycleHouseModel" "from" "[I") (by decide +kernel)
  have hf17 := hts (.fieldLink RX8 17 "CycleHouseModel" "to" "[I") (by decide +kernel)
  have hf27 := hts (.fieldLink RX8 27 "CycleHouseModel" "group" "[I") (by decide +kernel)
  have hf33 := hts (.fieldLink RX8 33 "CycleHouseModel" "closing" "[J") (by decide +kernel)
  have hf64 := hts (.fieldLink RX8 64 "CycleHouseModel" "closed" "I") (by decide +kernel)
  have hf30 := hts (.fieldLink RX8 30 "CycleHouseModel" "ways" "[J") (by decide +kernel)
  have hf36 := hts (.fieldLink RX8 36 "CycleHouseModel" "closer" "[I") (by decide +kernel)
  have hf7 := hts (.fieldLink RX8 7 "CycleHouseModel" "n" "I") (by decide +kernel)
  have hl : lv_has ls 8 [(0, .ref (R 0)), (1, .int (nI k))] := hl
  obtain ⟨g1, g2, g3, g4, g5, g6⟩ := g
  obtain ⟨q1, q2, q3, q4⟩ := id hq
  obtain ⟨⟨ga, ha⟩, ⟨gb, hb2⟩, -, -⟩ := g6 k hk
  have kcl : (nI k).toNatClampNeg = k := nI_clamp (by omega)
  have kin : vp_in (nI k) 40 := vp_in_nI (by omega) (by omega)
  have acl : (nI (fr k)).toNatClampNeg = fr k := nI_clamp (by omega)
  have bcl : (nI (to k)).toNatClampNeg = to k := nI_clamp (by omega)
  have dcl : (I 10).toNatClampNeg = q.2.2.1 := by rw [q3]; exact nI_clamp (by omega)
  have gA := (q1 _ ha).2
  have gB := (q1 _ hb2).2
  refine lv_aload_n hx hb dX8_joins_0 rfl (lv_at hl 0 rfl) ?_
  refine va_get (D := (dC, dI)) (ci := 8) (v := .ref (R 3)) (C := RX8) (T := TX8) (N := 20) hx hb hts hinX8 hown hK hP 0 rfl rfl 3 (by decide) hf13 (fun _ h9 => h9) rfl dX8_joins_1 ?_
  refine lv_iload_n hx hb dX8_joins_4 rfl (lv_at hl 1 rfl) ?_
  have h5 : vp_in (nI k) 40 := kin
  refine va_iald hx hb hK hP 1 0 rfl rfl h5 dX8_joins_5 ?_
  refine lv_topi (fun x5 ex5 => ?_)
  have ex5 : x5 = A 3 (nI k).toNatClampNeg := ex5
  have ex5 : x5 = nI (fr k) := by rw [ex5, kcl]; exact ga
  subst ex5
  refine lv_istore_n (lv' := [(2, .int (nI (fr k))), (0, .ref (R 0)), (1, .int (nI k))]) hx hb dX8_joins_6 rfl hl (by decide) rfl (fun ls hl => ?_)
  refine lv_aload_n hx hb dX8_joins_7 rfl (lv_at hl 1 rfl) ?_
  refine va_get (D := (dC, dI)) (ci := 8) (v := .ref (R 4)) (C := RX8) (T := TX8) (N := 20) hx hb hts hinX8 hown hK hP 0 rfl rfl 4 (by decide) hf17 (fun _ h9 => h9) rfl dX8_joins_8 ?_
  refine lv_iload_n hx hb dX8_joins_11 rfl (lv_at hl 2 rfl) ?_
  have h12 : vp_in (nI k) 40 := kin
  refine va_iald hx hb hK hP 2 0 rfl rfl h12 dX8_joins_12 ?_
  refine lv_topi (fun x12 ex12 => ?_)
  have ex12 : x12 = A 4 (nI k).toNatClampNeg := ex12
  have ex12 : x12 = nI (to k) := by rw [ex12, kcl]; exact gb
  subst ex12
  refine lv_istore_n (lv' := [(3, .int (nI (to k))), (2, .int (nI (fr k))), (0, .ref (R 0)), (1, .int (nI k))]) hx hb dX8_joins_13 rfl hl (by decide) rfl (fun ls hl => ?_)
  refine lv_aload_n hx hb dX8_joins_14 rfl (lv_at hl 2 rfl) ?_
  refine va_get (D := (dC, dI)) (ci := 8) (v := .ref (R 8)) (C := RX8) (T := TX8) (N := 20) hx hb hts hinX8 hown hK hP 0 rfl rfl 8 (by decide) hf27 (fun _ h9 => h9) rfl dX8_joins_15 ?_
  refine lv_iload_n hx hb dX8_joins_18 rfl (lv_at hl 1 rfl) ?_
  have h19 : vp_in (nI (fr k)) 16 := vp_in_nI (by omega) (by omega)
  refine va_iald hx hb hK hP 5 0 rfl rfl h19 dX8_joins_19 ?_
  refine lv_topi (fun x19 ex19 => ?_)
  have ex19 : x19 = A 8 (nI (fr k)).toNatClampNeg := ex19
  have ex19 : x19 = nI (q.1 (fr k)) := by rw [ex19, acl]; exact (q1 _ ha).1
  refine lv_aload_n hx hb dX8_joins_20 rfl (lv_at hl 2 rfl) ?_
  refine va_get (D := (dC, dI)) (ci := 8) (v := .ref (R 8)) (C := RX8) (T := TX8) (N := 20) hx hb hts hinX8 hown hK hP 0 rfl rfl 8 (by decide) hf27 (fun _ h9 => h9) rfl dX8_joins_21 ?_
  refine lv_iload_n hx hb dX8_joins_24 rfl (lv_at hl 0 rfl) ?_
  have h25 : vp_in (nI (to k)) 16 := vp_in_nI (by omega) (by omega)
  refine va_iald hx hb hK hP 5 0 rfl rfl h25 dX8_joins_25 ?_
  refine lv_topi (fun x25 ex25 => ?_)
  have ex25 : x25 = A 8 (nI (to k)).toNatClampNeg := ex25
  have ex25 : x25 = nI (q.1 (to k)) := by rw [ex25, bcl]; exact (q1 _ hb2).1
  refine lv_icmp_ne (tgt := 77) hx hb dX8_joins_26 (by decide) (fun c26 => ?_) (fun c26 => ?_)
  · -- 26 taken
    rw [ex19, ex25, nI_eq (by omega) (by omega)] at c26
    refine lv_aload_n hx hb dX8_joins_77 rfl (lv_at hl 2 rfl) ?_
    refine va_get (D := (dC, dI)) (ci := 8) (v := .ref (R 8)) (C := RX8) (T := TX8) (N := 20) hx hb hts hinX8 hown hK hP 0 rfl rfl 8 (by decide) hf27 (fun _ h9 => h9) rfl dX8_joins_78 ?_
    refine lv_iload_n hx hb dX8_joins_81 rfl (lv_at hl 0 rfl) ?_
    have h82 : vp_in (nI (to k)) 16 := vp_in_nI (by omega) (by omega)
    refine va_iald hx hb hK hP 5 0 rfl rfl h82 dX8_joins_82 ?_
    refine lv_topi (fun x82 ex82 => ?_)
    have ex82 : x82 = A 8 (nI (to k)).toNatClampNeg := ex82
    have ex82 : x82 = nI (q.1 (to k)) := by rw [ex82, bcl]; exact (q1 _ hb2).1
    refine lv_istore (lv' := [(4, .int x82), (3, .int (nI (to k))), (2, .int (nI (fr k))), (0, .ref (R 0)), (1, .int (nI k))]) hx hb dX8_joins_83 hl (by decide) rfl (fun ls hl => ?_)
    refine lv_aload_n hx hb dX8_joins_85 rfl (lv_at hl 3 rfl) ?_
    refine va_get (D := (dC, dI)) (ci := 8) (v := .ref (R 9)) (C := RX8) (T := TX8) (N := 20) hx hb hts hinX8 hown hK hP 0 rfl rfl 9 (by decide) hf30 (fun _ h9 => h9) rfl dX8_joins_86 ?_
    refine lv_iload_n hx hb dX8_joins_89 rfl (lv_at hl 2 rfl) ?_
    have h90 : vp_in (nI (fr k)) 16 := vp_in_nI (by omega) (by omega)
    refine va_lald hx hb hK hP 6 1 rfl rfl h90 dX8_joins_90 ?_
    refine lv_topl (fun x90 ex90 => ?_)
    have ex90 : x90 = B 9 (nI (fr k)).toNatClampNeg := ex90
    refine lv_aload_n hx hb dX8_joins_91 rfl (lv_at hl 3 rfl) ?_
    refine va_get (D := (dC, dI)) (ci := 8) (v := .ref (R 9)) (C := RX8) (T := TX8) (N := 20) hx hb hts hinX8 hown hK hP 0 rfl rfl 9 (by decide) hf30 (fun _ h9 => h9) rfl dX8_joins_92 ?_
    refine lv_iload_n hx hb dX8_joins_95 rfl (lv_at hl 1 rfl) ?_
    have h96 : vp_in (nI (to k)) 16 := vp_in_nI (by omega) (by omega)
    refine va_lald hx hb hK hP 6 1 rfl rfl h96 dX8_joins_96 ?_
    refine lv_topl (fun x96 ex96 => ?_)
    have ex96 : x96 = B 9 (nI (to k)).toNatClampNeg := ex96
    refine lv_lxor hx hb dX8_joins_97 ?_
    refine lv_topl (fun x97 ex97 => ?_)
    refine lv_lconst (v := 1) hx hb dX8_joins_98 (by decide) ?_
    refine lv_iload_n hx hb dX8_joins_99 rfl (lv_at hl 4 rfl) ?_
    refine lv_lshl hx hb dX8_joins_100 rfl ?_
    refine lv_topl (fun x100 ex100 => ?_)
    refine lv_lxor hx hb dX8_joins_101 ?_
    refine lv_topl (fun x101 ex101 => ?_)
    have ex101 : x101 = lN (jr q (fr k) (to k) k) := by rw [ex101, ex97, ex90, ex96, acl, bcl, q2 _ ha, q2 _ hb2, ex100, nm_pow (by omega), lN_xor, lN_xor]; rfl
    refine lv_lstore (lv' := [(5, .long x101), (4, .int x82), (3, .int (nI (to k))), (2, .int (nI (fr k))), (0, .ref (R 0)), (1, .int (nI k))]) hx hb dX8_joins_102 hl (by decide) rfl (fun ls hl => ?_)
    refine lv_iconst (v := 0) hx hb dX8_joins_104 (by decide) ?_
    refine lv_istore (lv' := [(7, .int 0), (5, .long x101), (4, .int x82), (3, .int (nI (to k))), (2, .int (nI (fr k))), (0, .ref (R 0)), (1, .int (nI k))]) hx hb dX8_joins_105 hl (by decide) rfl (fun ls hl => ?_)
    have K107 : ∀ (kn : Nat) (i : Nat) (x : Int32) (A_107 : Nat → Nat → Int32) (B_107 : Nat → Nat → Int64) (ls : Array Slot) (H : Heap) (locs : List Loc), nv - i < kn → (x = nI i ∧ i ≤ nv ∧ (∀ k, k ≠ 8 → A_107 k = A k) ∧ (∀ v, v < nv → A_107 8 v = nI (if v < i ∧ q.1 v = q.1 (to k) then q.1 (fr k) else q.1 v)) ∧ (∀ k, k ≠ 9 → B_107 k = B k) ∧ ∀ v, v < nv → B_107 9 v = lN (if v < i ∧ q.1 v = q.1 (to k) then q.2.1 v ^^^ jr q (fr k) (to k) k else q.2.1 v)) → va_P (dC, dI) vwCl (MW cI cJ cZ R (I, A_107, B_107)) H → va_D Aa (MW cI cJ cZ R (I, A_107, B_107)) → va_S Aa s.heap H locs → lv_has ls 8 [(0, .ref (R 0)), (1, .int (nI k)), (2, .int (nI (fr k))), (3, .int (nI (to k))), (4, .int x82), (5, .long x101), (7, .int x)] → W p l e (ctR (0, 0)) s m #[.ref (R 0), .int (nI k)] below meth c H locs 0 0 Q (F0 m 107 ls []) := by
      intro kn
      induction kn with
      | zero => intro i x A_107 B_107 ls H locs hmu; exact absurd hmu (Nat.not_lt_zero _)
      | succ kn ih107 =>
        intro i x A_107 B_107 ls H locs mu107 inv107 hP hD hS hl
        obtain ⟨ex, hi, a1, a2, b1, b2⟩ := inv107
        refine lv_iload hx hb dX8_joins_107 (lv_at hl 6 rfl) ?_
        refine lv_aload_n hx hb dX8_joins_109 rfl (lv_at hl 0 rfl) ?_
        refine va_get (D := (dC, dI)) (ci := 8) (v := .int (I 1)) (C := RX8) (T := TX8) (N := 20) hx hb hts hinX8 hown hK hP 0 rfl rfl 1 (by decide) hf7 (fun _ h9 => h9) rfl dX8_joins_110 ?_
        refine lv_icmp_ge (tgt := 162) hx hb dX8_joins_113 (by decide) (fun c113 => ?_) (fun c113 => ?_)
        · -- 113 taken
          rw [ex, g4, nI_leI (by omega) (by omega)] at c113
          have hge : i = nv := by omega
          subst hge
          refine lv_iconst (v := 1) hx hb dX8_joins_162 (by decide) ?_
          refine hret 163 ls _ _ 1 (I, A_107, B_107) dX8_joins_163 rfl ?_ hP hD hS
          try dsimp only
          exact ⟨by rw [if_neg c26], rJ_join hq ha c26 rfl (b1 _ (by decide)) (a1 _ (by decide)) (fun v hv => by rw [a2 v hv]; simp only [hv, true_and]) (fun v hv => by rw [b2 v hv]; simp only [hv, true_and]),
          fJ.of (fun k _ => rfl) (fun k hk _ => a1 k hk) (fun k hk _ => b1 k hk)⟩
        · -- 113 not
          rw [ex, g4, nI_leI (by omega) (by omega)] at c113
          have ecl : x.toNatClampNeg = i := by rw [ex]; exact nI_clamp (by omega)
          have hin : vp_in x 16 := by rw [ex]; exact vp_in_nI (by omega) (by omega)
          have gi := (q1 i (by omega)).2
          refine lv_aload_n hx hb dX8_joins_116 rfl (lv_at hl 0 rfl) ?_
          refine va_get (D := (dC, dI)) (ci := 8) (v := .ref (R 8)) (C := RX8) (T := TX8) (N := 20) hx hb hts hinX8 hown hK hP 0 rfl rfl 8 (by decide) hf27 (fun _ h9 => h9) rfl dX8_joins_117 ?_
          refine lv_iload hx hb dX8_joins_120 (lv_at hl 6 rfl) ?_
          have h122 : vp_in x 16 := hin
          refine va_iald hx hb hK hP 5 0 rfl rfl h122 dX8_joins_122 ?_
          refine lv_topi (fun x122 ex122 => ?_)
          have ex122 : x122 = A_107 8 x.toNatClampNeg := ex122
          have ex122 : x122 = nI (q.1 i) := by rw [ex122, ecl, a2 i (by omega), if_neg (fun h => absurd h.1 (Nat.lt_irrefl _))]
          refine lv_iload hx hb dX8_joins_123 (lv_at hl 4 rfl) ?_
          refine lv_icmp_eq (tgt := 131) hx hb dX8_joins_125 (by decide) (fun c125 => ?_) (fun c125 => ?_)
          · -- 125 taken
            rw [ex122, ex82, nI_eq (by omega) (by omega)] at c125
            refine lv_aload_n hx hb dX8_joins_131 rfl (lv_at hl 0 rfl) ?_
            refine va_get (D := (dC, dI)) (ci := 8) (v := .ref (R 8)) (C := RX8) (T := TX8) (N := 20) hx hb hts hinX8 hown hK hP 0 rfl rfl 8 (by decide) hf27 (fun _ h9 => h9) rfl dX8_joins_132 ?_
            refine lv_iload hx hb dX8_joins_135 (lv_at hl 6 rfl) ?_
            refine lv_aload_n hx hb dX8_joins_137 rfl (lv_at hl 0 rfl) ?_
            refine va_get (D := (dC, dI)) (ci := 8) (v := .ref (R 8)) (C := RX8) (T := TX8) (N := 20) hx hb hts hinX8 hown hK hP 0 rfl rfl 8 (by decide) hf27 (fun _ h9 => h9) rfl dX8_joins_138 ?_
            refine lv_iload_n hx hb dX8_joins_141 rfl (lv_at hl 2 rfl) ?_
            have h142 : vp_in (nI (fr k)) 16 := vp_in_nI (by omega) (by omega)
            refine va_iald hx hb hK hP 5 0 rfl rfl h142 dX8_joins_142 ?_
            refine lv_topi (fun x142 ex142 => ?_)
            have ex142 : x142 = A_107 8 (nI (fr k)).toNatClampNeg := ex142
            have ex142 : x142 = nI (q.1 (fr k)) := by rw [ex142, acl, a2 _ ha, if_neg (fun h => c26 h.2)]
            have h143 : vp_in x 16 := hin
            refine va_iast hx hb hK hP hD hS 5 0 rfl rfl h143 dX8_joins_143 (fun H locs hP hD hS => ?_)
            obtain ⟨A143, eA143⟩ : ∃ z : Nat → Nat → Int32, z = va_up A_107 8 (upd (A_107 8) x.toNatClampNeg x142) := ⟨_, rfl⟩
            have hP : va_P (dC, dI) vwCl (MW cI cJ cZ R (I, A143, B_107)) H := by rw [eA143]; exact hP
            have hD : va_D Aa (MW cI cJ cZ R (I, A143, B_107)) := by rw [eA143]; exact hD
            refine lv_aload_n hx hb dX8_joins_144 rfl (lv_at hl 0 rfl) ?_
            refine va_get (D := (dC, dI)) (ci := 8) (v := .ref (R 9)) (C := RX8) (T := TX8) (N := 20) hx hb hts hinX8 hown hK hP 0 rfl rfl 9 (by decide) hf30 (fun _ h9 => h9) rfl dX8_joins_145 ?_
            refine lv_iload hx hb dX8_joins_148 (lv_at hl 6 rfl) ?_
            refine lv_dup2_11 hx hb dX8_joins_150 rfl rfl ?_
            have h151 : vp_in x 16 := hin
            refine va_lald hx hb hK hP 6 1 rfl rfl h151 dX8_joins_151 ?_
            refine lv_topl (fun x151 ex151 => ?_)
            have ex151 : x151 = B_107 9 x.toNatClampNeg := ex151
            have ex151 : x151 = lN (q.2.1 i) := by rw [ex151, ecl, b2 i (by omega), if_neg (fun h => absurd h.1 (Nat.lt_irrefl _))]
            refine lv_lload hx hb dX8_joins_152 (lv_at hl 5 rfl) ?_
            refine lv_lxor hx hb dX8_joins_154 ?_
            refine lv_topl (fun x154 ex154 => ?_)
            have ex154 : x154 = lN (q.2.1 i ^^^ jr q (fr k) (to k) k) := by rw [ex154, ex151, ex101, lN_xor]
            have h155 : vp_in x 16 := hin
            refine va_last hx hb hK hP hD hS 6 1 rfl rfl h155 dX8_joins_155 (fun H locs hP hD hS => ?_)
            obtain ⟨B155, eB155⟩ : ∃ z : Nat → Nat → Int64, z = va_up B_107 9 (vp_updL (B_107 9) x.toNatClampNeg x154) := ⟨_, rfl⟩
            have hP : va_P (dC, dI) vwCl (MW cI cJ cZ R (I, A143, B155)) H := by rw [eB155]; exact hP
            have hD : va_D Aa (MW cI cJ cZ R (I, A143, B155)) := by rw [eB155]; exact hD
            obtain ⟨x156, ex156⟩ : ∃ y : Int32, y = x + (1) := ⟨_, rfl⟩
            refine lv_iinc (v := x156) (lv' := [(7, .int x156), (0, .ref (R 0)), (1, .int (nI k)), (2, .int (nI (fr k))), (3, .int (nI (to k))), (4, .int x82), (5, .long x101)]) hx hb dX8_joins_156 hl (k := 6) rfl (by rw [ex156]; rfl) (by decide) rfl (fun ls hl => ?_)
            refine lv_goto (tgt := 107) hx hb dX8_joins_159 (by decide) ?_
            exact ih107 (i + 1) x156 A143 B155 ls _ _ (by omega) ⟨by rw [ex156, ex]; exact nI_1 i, by omega, fun k hk => by rw [eA143, up_ne hk]; exact a1 k hk, fun v hv => by
                rw [eA143, up_self, ecl]
                by_cases hvi : v = i
                · subst hvi; rw [pk_us, ex142, if_pos ⟨by omega, c125⟩]
                · rw [pk_un hvi, a2 v hv]; simp only [show (v < i + 1) = (v < i) from propext ⟨fun h => by omega, fun h => by omega⟩], fun k hk => by rw [eB155, up_ne hk]; exact b1 k hk, fun v hv => by
                rw [eB155, up_self, ecl]
                by_cases hvi : v = i
                · subst hvi; rw [pk_uLs, ex154, if_pos ⟨by omega, c125⟩]
                · rw [pk_uLn hvi, b2 v hv]; simp only [show (v < i + 1) = (v < i) from propext ⟨fun h => by omega, fun h => by omega⟩]⟩ hP hD hS (lv_sub hl [1, 2, 3, 4, 5, 6, 0] rfl)
          · -- 125 not
            rw [ex122, ex82, nI_eq (by omega) (by omega)] at c125
            refine lv_goto (tgt := 156) hx hb dX8_joins_128 (by decide) ?_
            obtain ⟨x156, ex156⟩ : ∃ y : Int32, y = x + (1) := ⟨_, rfl⟩
            refine lv_iinc (v := x156) (lv' := [(7, .int x156), (0, .ref (R 0)), (1, .int (nI k)), (2, .int (nI (fr k))), (3, .int (nI (to k))), (4, .int x82), (5, .long x101)]) hx hb dX8_joins_156 hl (k := 6) rfl (by rw [ex156]; rfl) (by decide) rfl (fun ls hl => ?_)
            refine lv_goto (tgt := 107) hx hb dX8_joins_159 (by decide) ?_
            exact ih107 (i + 1) x156 A_107 B_107 ls _ _ (by omega) ⟨by rw [ex156, ex]; exact nI_1 i, by omega, a1, fun v hv => by
                rw [a2 v hv]; by_cases hvi : v = i
                · subst hvi; rw [if_neg (fun h => c125 h.2), if_neg (fun h => c125 h.2)]
                · simp only [show (v < i + 1) = (v < i) from propext ⟨fun h => by omega, fun h => by omega⟩], b1, fun v hv => by
                rw [b2 v hv]; by_cases hvi : v = i
                · subst hvi; rw [if_neg (fun h => c125 h.2), if_neg (fun h => c125 h.2)]
                · simp only [show (v < i + 1) = (v < i) from propext ⟨fun h => by omega, fun h => by omega⟩]⟩ hP hD hS (lv_sub hl [1, 2, 3, 4, 5, 6, 0] rfl)
    exact K107 _ 0 0 A B ls _ _ (Nat.lt_succ_self _) ⟨rfl, by omega, fun _ _ => rfl, fun v hv => by rw [if_neg (fun h => absurd h.1 (Nat.not_lt_zero _))]; exact (q1 v hv).1, fun _ _ => rfl, fun v hv => by rw [if_neg (fun h => absurd h.1 (Nat.not_lt_zero _))]; exact q2 v hv⟩ hP hD hS (lv_sub hl [5, 6, 4, 3, 2, 1, 0] rfl)
  · -- 26 not
    rw [ex19, ex25, nI_eq (by omega) (by omega)] at c26
    refine lv_aload_n hx hb dX8_joins_29 rfl (lv_at hl 2 rfl) ?_
    refine va_get (D := (dC, dI)) (ci := 8) (v := .ref (R 11)) (C := RX8) (T := TX8) (N := 20) hx hb hts hinX8 hown hK hP 0 rfl rfl 11 (by decide) hf33 (fun _ h9 => h9) rfl dX8_joins_30 ?_
    refine lv_aload_n hx hb dX8_joins_33 rfl (lv_at hl 2 rfl) ?_
    refine va_get (D := (dC, dI)) (ci := 8) (v := .int (I 10)) (C := RX8) (T := TX8) (N := 20) hx hb hts hinX8 hown hK hP 0 rfl rfl 10 (by decide) hf64 (fun _ h9 => h9) rfl dX8_joins_34 ?_
    refine lv_aload_n hx hb dX8_joins_37 rfl (lv_at hl 2 rfl) ?_
    refine va_get (D := (dC, dI)) (ci := 8) (v := .ref (R 9)) (C := RX8) (T := TX8) (N := 20) hx hb hts hinX8 hown hK hP 0 rfl rfl 9 (by decide) hf30 (fun _ h9 => h9) rfl dX8_joins_38 ?_
    refine lv_iload_n hx hb dX8_joins_41 rfl (lv_at hl 1 rfl) ?_
    have h42 : vp_in (nI (fr k)) 16 := vp_in_nI (by omega) (by omega)
    refine va_lald hx hb hK hP 6 1 rfl rfl h42 dX8_joins_42 ?_
    refine lv_topl (fun x42 ex42 => ?_)
    have ex42 : x42 = B 9 (nI (fr k)).toNatClampNeg := ex42
    refine lv_aload_n hx hb dX8_joins_43 rfl (lv_at hl 2 rfl) ?_
    refine va_get (D := (dC, dI)) (ci := 8) (v := .ref (R 9)) (C := RX8) (T := TX8) (N := 20) hx hb hts hinX8 hown hK hP 0 rfl rfl 9 (by decide) hf30 (fun _ h9 => h9) rfl dX8_joins_44 ?_
    refine lv_iload_n hx hb dX8_joins_47 rfl (lv_at hl 0 rfl) ?_
    have h48 : vp_in (nI (to k)) 16 := vp_in_nI (by omega) (by omega)
    refine va_lald hx hb hK hP 6 1 rfl rfl h48 dX8_joins_48 ?_
    refine lv_topl (fun x48 ex48 => ?_)
    have ex48 : x48 = B 9 (nI (to k)).toNatClampNeg := ex48
    refine lv_lxor hx hb dX8_joins_49 ?_
    refine lv_topl (fun x49 ex49 => ?_)
    refine lv_lconst (v := 1) hx hb dX8_joins_50 (by decide) ?_
    refine lv_iload_n hx hb dX8_joins_51 rfl (lv_at hl 3 rfl) ?_
    refine lv_lshl hx hb dX8_joins_52 rfl ?_
    refine lv_topl (fun x52 ex52 => ?_)
    refine lv_lxor hx hb dX8_joins_53 ?_
    refine lv_topl (fun x53 ex53 => ?_)
    have ex53 : x53 = lN (jr q (fr k) (to k) k) := by rw [ex53, ex49, ex42, ex48, acl, bcl, q2 _ ha, q2 _ hb2, ex52, nm_pow (by omega), lN_xor, lN_xor]; rfl
    have h54 : vp_in (I 10) 40 := by rw [q3]; exact vp_in_nI (by omega) (by omega)
    refine va_last hx hb hK hP hD hS 7 1 rfl rfl h54 dX8_joins_54 (fun H locs hP hD hS => ?_)
    obtain ⟨B54, eB54⟩ : ∃ z : Nat → Nat → Int64, z = va_up B 11 (vp_updL (B 11) (I 10).toNatClampNeg x53) := ⟨_, rfl⟩
    have hP : va_P (dC, dI) vwCl (MW cI cJ cZ R (I, A, B54)) H := by rw [eB54]; exact hP
    have hD : va_D Aa (MW cI cJ cZ R (I, A, B54)) := by rw [eB54]; exact hD
    refine lv_aload_n hx hb dX8_joins_55 rfl (lv_at hl 2 rfl) ?_
    refine va_get (D := (dC, dI)) (ci := 8) (v := .ref (R 12)) (C := RX8) (T := TX8) (N := 20) hx hb hts hinX8 hown hK hP 0 rfl rfl 12 (by decide) hf36 (fun _ h9 => h9) rfl dX8_joins_56 ?_
    refine lv_aload_n hx hb dX8_joins_59 rfl (lv_at hl 2 rfl) ?_
    refine va_get (D := (dC, dI)) (ci := 8) (v := .int (I 10)) (C := RX8) (T := TX8) (N := 20) hx hb hts hinX8 hown hK hP 0 rfl rfl 10 (by decide) hf64 (fun _ h9 => h9) rfl dX8_joins_60 ?_
    refine lv_iload_n hx hb dX8_joins_63 rfl (lv_at hl 3 rfl) ?_
    have h64 : vp_in (I 10) 40 := by rw [q3]; exact vp_in_nI (by omega) (by omega)
    refine va_iast hx hb hK hP hD hS 8 0 rfl rfl h64 dX8_joins_64 (fun H locs hP hD hS => ?_)
    obtain ⟨A64, eA64⟩ : ∃ z : Nat → Nat → Int32, z = va_up A 12 (upd (A 12) (I 10).toNatClampNeg (nI k)) := ⟨_, rfl⟩
    have hP : va_P (dC, dI) vwCl (MW cI cJ cZ R (I, A64, B54)) H := by rw [eA64]; exact hP
    have hD : va_D Aa (MW cI cJ cZ R (I, A64, B54)) := by rw [eA64]; exact hD
    refine lv_aload_n hx hb dX8_joins_65 rfl (lv_at hl 2 rfl) ?_
    refine lv_dup hx hb dX8_joins_66 rfl ?_
    refine va_get (D := (dC, dI)) (ci := 8) (v := .int (I 10)) (C := RX8) (T := TX8) (N := 20) hx hb hts hinX8 hown hK hP 0 rfl rfl 10 (by decide) hf64 (fun _ h9 => h9) rfl dX8_joins_67 ?_
    refine lv_iconst (v := 1) hx hb dX8_joins_70 (by decide) ?_
    refine lv_iadd hx hb dX8_joins_71 ?_
    refine lv_topi (fun x71 ex71 => ?_)
    refine va_put (D := (dC, dI)) (ci := 8) (v := .int x71) (ty := .int) (C := RX8) (T := TX8) (N := 20) hx hb hts hinX8 tyX8 tyX8_ok nmX8 hown hK hP hD hS 0 rfl rfl 10 (by decide) hf64 (fun _ h9 => h9) rfl (by decide +kernel) rfl rfl (Nat.le_of_ble_eq_true rfl) dX8_joins_72 (fun H locs hP hD hS => ?_)
    obtain ⟨I72, eI72⟩ : ∃ z : Nat → Int32, z = va_up I 10 x71 := ⟨_, rfl⟩
    have hP : va_P (dC, dI) vwCl (MW cI cJ cZ R (I72, A64, B54)) H := by rw [eI72]; exact hP
    have hD : va_D Aa (MW cI cJ cZ R (I72, A64, B54)) := by rw [eI72]; exact hD
    refine lv_iconst (v := 0) hx hb dX8_joins_75 (by decide) ?_
    refine hret 76 ls _ _ 0 (I72, A64, B54) dX8_joins_76 rfl ?_ hP hD hS
    try dsimp only
    exact ⟨by rw [if_pos c26], rJ_close hq c26 (by rw [eA64, up_ne (by decide)]) (by rw [eB54, up_ne (by decide)]) (by rw [eI72, up_self, ex71, q3]; exact nI_1 _) (by rw [eB54, up_self, dcl, ex53]) (by rw [eA64, up_self, dcl]),
        fJ.of (fun k hk => by rw [eI72, up_ne hk]) (fun k _ hk => by rw [eA64, up_ne hk]) (fun k _ hk => by rw [eB54, up_ne hk])⟩
