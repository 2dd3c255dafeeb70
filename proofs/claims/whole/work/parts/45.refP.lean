set_option maxHeartbeats 4000000 in
set_option maxRecDepth 100000 in
theorem k_X8_hang (l : Launch) (dC : Nat → ClassId) (dI : Nat → Nat → Nat) (cI cJ cZ cII cJJ : ClassId) (R : Nat → Nat) (I : Nat → Int32) (A : Nat → Nat → Int32) (B : Nat → Nat → Int64) (nv ne : Nat) (fr to wt : Nat → Nat) (u2 v2 : Nat) (g : gM nv ne fr to wt I A) (hu : u2 < nv) (hv : v2 < nv) : ctI l (dC, dI) (tyL cI cJ cZ cII cJJ) (MW cI cJ cZ R) yX8_hang wsX8_hang (0, 0) [.ref (R 0), .int (nI u2), .int (nI v2)] (I, A, B) (fun r u => r = (if (jRun fr to (fl ne) ne).1 u2 = (jRun fr to (fl ne) ne).1 v2 then 1 else 0) ∧ u.1 = I ∧ (∀ k, k ≠ 19 → u.2.1 k = A k) ∧ u.2.2 = B) := by
  refine ctI_intro (cc := cX8_hang) (maxL := 5) (by decide) rfl (Nat.le_of_ble_eq_true rfl) ?_
  intro p e s m below meth c ls Aa Q F hK hN hP hD hS hA hl hret
  have hx := F.1
  have hb := F.2.1
  have hown : s.vm.findClass RX8 = some m.cls := F.2.2.2.1
  have hts := F.2.2.2.2
  have hinX8 : ∀ w ∈ wsX80, w ∈ wsX8_hang := by decide +kernel
  have hf7 := hts (.fieldLink RX8 7 "CycleHouseModel" "n" "I") (by decide +kernel)
  have hf54 := hts (.fieldLink RX8 54 "CycleHouseModel" "reached" "[Z") (by decide +kernel)
  have hf61 := hts (.fieldLink RX8 61 "CycleHouseModel" "m" "I") (by decide +kernel)
  have hf13 := hts (.fieldLink RX8 13 "CycleHouseModel" "from" "[I") (by decide +kernel)
  have hf17 := hts (.fieldLink RX8 17 "CycleHouseModel" "to" "[I") (by decide +kernel)
  have hl : lv_has ls 5 [(0, .ref (R 0)), (1, .int (nI u2)), (2, .int (nI v2))] := hl
  obtain ⟨g1, g2, g3, g4, g5, g6⟩ := id g
  refine lv_iconst (v := 0) hx hb dX8_hang_0 (by decide) ?_
  refine lv_istore_n (lv' := [(3, .int 0), (0, .ref (R 0)), (1, .int (nI u2)), (2, .int (nI v2))]) hx hb dX8_hang_1 rfl hl (by decide) rfl (fun ls hl => ?_)
  have K2 : ∀ (kn : Nat) (i : Nat) (A_2 : Nat → Nat → Int32) (ls : Array Slot) (H : Heap) (locs : List Loc), nv - i < kn → (i ≤ nv ∧ (∀ k, k < i → A_2 19 k = (if (k == u2) = true then 1 else 0)) ∧ ∀ k, k ≠ 19 → A_2 k = A k) → va_P (dC, dI) vwCl (MW cI cJ cZ R (I, A_2, B)) H → va_D Aa (MW cI cJ cZ R (I, A_2, B)) → va_S Aa s.heap H locs → lv_has ls 5 [(0, .ref (R 0)), (1, .int (nI u2)), (2, .int (nI v2)), (3, .int (nI i))] → W p l e (ctR (0, 0)) s m #[.ref (R 0), .int (nI u2), .int (nI v2)] below meth c H locs 0 0 Q (F0 m 2 ls []) := by
    intro kn
    induction kn with
    | zero => intro i A_2 ls H locs hmu; exact absurd hmu (Nat.not_lt_zero _)
    | succ kn ih2 =>
      intro i A_2 ls H locs mu2 inv2 hP hD hS hl
      obtain ⟨hi, a1, a2⟩ := inv2
      refine lv_iload_n hx hb dX8_hang_2 rfl (lv_at hl 3 rfl) ?_
      refine lv_aload_n hx hb dX8_hang_3 rfl (lv_at hl 0 rfl) ?_
      refine va_get (D := (dC, dI)) (ci := 8) (v := .int (I 1)) (C := RX8) (T := TX8) (N := 20) hx hb hts hinX8 hown hK hP 0 rfl rfl 1 (by decide) hf7 (fun _ h9 => h9) rfl dX8_hang_4 ?_
      refine lv_icmp_ge (tgt := 32) hx hb dX8_hang_7 (by decide) (fun c7 => ?_) (fun c7 => ?_)
      · -- 7 taken
        rw [g4, nI_leI (by omega) (by omega)] at c7
        have hge : i = nv := by omega
        rw [hge] at a1
        refine lv_iconst (v := 1) hx hb dX8_hang_32 (by decide) ?_
        refine lv_istore_n (lv' := [(3, .int 1), (0, .ref (R 0)), (1, .int (nI u2)), (2, .int (nI v2))]) hx hb dX8_hang_33 rfl hl (by decide) rfl (fun ls hl => ?_)
        have K34 : ∀ (kn : Nat) (S : Nat → Bool) (ch : Int32) (A_34 : Nat → Nat → Int32) (ls : Array Slot) (H : Heap) (locs : List Loc), (if ch = 1 then nv - ct0 nv S + 1 else 0) < kn → (zR nv S (A_34 19) ∧ S u2 = true ∧ (∀ k, k < nv → S k = true → (jRun fr to (fl ne) ne).1 k = (jRun fr to (fl ne) ne).1 u2) ∧ (∀ k, k ≠ 19 → A_34 k = A k) ∧ (ch = 1 ∨ (ch = 0 ∧ ∀ e, e < ne → S (fr e) = S (to e)))) → va_P (dC, dI) vwCl (MW cI cJ cZ R (I, A_34, B)) H → va_D Aa (MW cI cJ cZ R (I, A_34, B)) → va_S Aa s.heap H locs → lv_has ls 5 [(0, .ref (R 0)), (1, .int (nI u2)), (2, .int (nI v2)), (3, .int ch)] → W p l e (ctR (0, 0)) s m #[.ref (R 0), .int (nI u2), .int (nI v2)] below meth c H locs 0 0 Q (F0 m 34 ls []) := by
          intro kn
          induction kn with
          | zero => intro S ch A_34 ls H locs hmu; exact absurd hmu (Nat.not_lt_zero _)
          | succ kn ih34 =>
            intro S ch A_34 ls H locs mu34 inv34 hP hD hS hl
            obtain ⟨hz, hsu, hsg, hA0, hch⟩ := inv34
            have hlS := ct0_le nv S
            refine lv_iload_n hx hb dX8_hang_34 rfl (lv_at hl 3 rfl) ?_
            refine lv_if_eq (tgt := 119) hx hb dX8_hang_35 (by decide) (fun c35 => ?_) (fun c35 => ?_)
            · -- 35 taken
              have hno : ∀ e, e < ne → S (fr e) = S (to e) := hch.elim (fun h => by rw [h] at c35; exact absurd c35 (by decide)) (fun h => h.2)
              refine lv_aload_n hx hb dX8_hang_119 rfl (lv_at hl 0 rfl) ?_
              refine va_get (D := (dC, dI)) (ci := 8) (v := .ref (R 19)) (C := RX8) (T := TX8) (N := 20) hx hb hts hinX8 hown hK hP 0 rfl rfl 19 (by decide) hf54 (fun _ h9 => h9) rfl dX8_hang_120 ?_
              refine lv_iload_n hx hb dX8_hang_123 rfl (lv_at hl 2 rfl) ?_
              have h124 : vp_in (nI v2) 16 := vp_in_nI (by omega) (by omega)
              refine va_zald hx hb hK hP 14 2 rfl rfl h124 dX8_hang_124 ?_
              refine lv_topi (fun x124 ex124 => ?_)
              have ex124 : x124 = A_34 19 (nI v2).toNatClampNeg := ex124
              have ex124 : x124 = (if S v2 = true then 1 else 0) := by rw [ex124, nI_clamp (by omega)]; exact hz _ hv
              have hiff : S v2 = true ↔ (jRun fr to (fl ne) ne).1 u2 = (jRun fr to (fl ne) ne).1 v2 := ⟨fun h => (hsg _ hv h).symm, fun h => hang_all (by omega) g.en hu hv hsu hno h⟩
              refine hret 125 ls _ _ x124 (I, A_34, B) dX8_hang_125 (by rw [ex124]; split <;> rfl) ?_ hP hD hS
              try dsimp only
              exact ⟨by rw [ex124]; simp only [hiff], rfl, hA0, rfl⟩
            · -- 35 not
              have hmo : ch = 1 := hch.elim id (fun h => absurd h.1 c35)
              refine lv_iconst (v := 0) hx hb dX8_hang_38 (by decide) ?_
              refine lv_istore_n (lv' := [(3, .int 0), (0, .ref (R 0)), (1, .int (nI u2)), (2, .int (nI v2))]) hx hb dX8_hang_39 rfl hl (by decide) rfl (fun ls hl => ?_)
              refine lv_iconst (v := 0) hx hb dX8_hang_40 (by decide) ?_
              refine lv_istore (lv' := [(4, .int 0), (3, .int 0), (0, .ref (R 0)), (1, .int (nI u2)), (2, .int (nI v2))]) hx hb dX8_hang_41 hl (by decide) rfl (fun ls hl => ?_)
              have K43 : ∀ (kn : Nat) (i : Nat) (S2 : Nat → Bool) (cc : Int32) (A_43 : Nat → Nat → Int32) (ls : Array Slot) (H : Heap) (locs : List Loc), ne - i < kn → (i ≤ ne ∧ zR nv S2 (A_43 19) ∧ S2 u2 = true ∧ (∀ k, k < nv → S2 k = true → (jRun fr to (fl ne) ne).1 k = (jRun fr to (fl ne) ne).1 u2) ∧ (∀ k, k ≠ 19 → A_43 k = A k) ∧ ((cc = 0 ∧ S2 = S ∧ ∀ e, e < i → S (fr e) = S (to e)) ∨ (cc = 1 ∧ ct0 nv S < ct0 nv S2))) → va_P (dC, dI) vwCl (MW cI cJ cZ R (I, A_43, B)) H → va_D Aa (MW cI cJ cZ R (I, A_43, B)) → va_S Aa s.heap H locs → lv_has ls 5 [(0, .ref (R 0)), (1, .int (nI u2)), (2, .int (nI v2)), (3, .int cc), (4, .int (nI i))] → W p l e (ctR (0, 0)) s m #[.ref (R 0), .int (nI u2), .int (nI v2)] below meth c H locs 0 0 Q (F0 m 43 ls []) := by
                intro kn
                induction kn with
                | zero => intro i S2 cc A_43 ls H locs hmu; exact absurd hmu (Nat.not_lt_zero _)
                | succ kn ih43 =>
                  intro i S2 cc A_43 ls H locs mu43 inv43 hP hD hS hl
                  obtain ⟨hi, hz2, hsu2, hsg2, hA, hcc⟩ := inv43
                  have hlS2 := ct0_le nv S2
                  refine lv_iload hx hb dX8_hang_43 (lv_at hl 4 rfl) ?_
                  refine lv_aload_n hx hb dX8_hang_45 rfl (lv_at hl 0 rfl) ?_
                  refine va_get (D := (dC, dI)) (ci := 8) (v := .int (I 2)) (C := RX8) (T := TX8) (N := 20) hx hb hts hinX8 hown hK hP 0 rfl rfl 2 (by decide) hf61 (fun _ h9 => h9) rfl dX8_hang_46 ?_
                  refine lv_icmp_ge (tgt := 116) hx hb dX8_hang_49 (by decide) (fun c49 => ?_) (fun c49 => ?_)
                  · -- 49 taken
                    rw [g5, nI_leI (by omega) (by omega)] at c49
                    have hge : i = ne := by omega
                    refine lv_goto (tgt := 34) hx hb dX8_hang_116 (by decide) ?_
                    exact ih34 S2 cc A_43 ls _ _ (by rw [if_pos hmo] at mu34; rcases hcc with h | h; rw [h.1, if_neg (by decide)]; omega; rw [h.1, if_pos rfl]; omega) ⟨hz2, hsu2, hsg2, hA, by rcases hcc with h | h; exact Or.inr ⟨h.1, by rw [h.2.1]; intro e he; exact h.2.2 e (by omega)⟩; exact Or.inl h.1⟩ hP hD hS (lv_sub hl [0, 1, 2, 3] rfl)
                  · -- 49 not
                    rw [g5, nI_leI (by omega) (by omega)] at c49
                    have icl : (nI i).toNatClampNeg = i := nI_clamp (by omega)
                    have iin : vp_in (nI i) 40 := vp_in_nI (by omega) (by omega)
                    have gi := g6 i (by omega)
                    have l1 := gi.1.2
                    have l2 := gi.2.1.2
                    refine lv_aload_n hx hb dX8_hang_52 rfl (lv_at hl 0 rfl) ?_
                    refine va_get (D := (dC, dI)) (ci := 8) (v := .ref (R 19)) (C := RX8) (T := TX8) (N := 20) hx hb hts hinX8 hown hK hP 0 rfl rfl 19 (by decide) hf54 (fun _ h9 => h9) rfl dX8_hang_53 ?_
                    refine lv_aload_n hx hb dX8_hang_56 rfl (lv_at hl 0 rfl) ?_
                    refine va_get (D := (dC, dI)) (ci := 8) (v := .ref (R 3)) (C := RX8) (T := TX8) (N := 20) hx hb hts hinX8 hown hK hP 0 rfl rfl 3 (by decide) hf13 (fun _ h9 => h9) rfl dX8_hang_57 ?_
                    refine lv_iload hx hb dX8_hang_60 (lv_at hl 4 rfl) ?_
                    have h62 : vp_in (nI i) 40 := iin
                    refine va_iald hx hb hK hP 1 0 rfl rfl h62 dX8_hang_62 ?_
                    refine lv_topi (fun x62 ex62 => ?_)
                    have ex62 : x62 = A_43 3 (nI i).toNatClampNeg := ex62
                    have ex62 : x62 = nI (fr i) := by rw [ex62, icl, hA 3 (by decide)]; exact gi.1.1
                    subst ex62
                    have h63 : vp_in (nI (fr i)) 16 := vp_in_nI (by omega) (by omega)
                    refine va_zald hx hb hK hP 14 2 rfl rfl h63 dX8_hang_63 ?_
                    refine lv_topi (fun x63 ex63 => ?_)
                    have ex63 : x63 = A_43 19 (nI (fr i)).toNatClampNeg := ex63
                    have ex63 : x63 = (if S2 (fr i) = true then 1 else 0) := by rw [ex63, nI_clamp (by omega)]; exact hz2 _ l1
                    refine lv_aload_n hx hb dX8_hang_64 rfl (lv_at hl 0 rfl) ?_
                    refine va_get (D := (dC, dI)) (ci := 8) (v := .ref (R 19)) (C := RX8) (T := TX8) (N := 20) hx hb hts hinX8 hown hK hP 0 rfl rfl 19 (by decide) hf54 (fun _ h9 => h9) rfl dX8_hang_65 ?_
                    refine lv_aload_n hx hb dX8_hang_68 rfl (lv_at hl 0 rfl) ?_
                    refine va_get (D := (dC, dI)) (ci := 8) (v := .ref (R 4)) (C := RX8) (T := TX8) (N := 20) hx hb hts hinX8 hown hK hP 0 rfl rfl 4 (by decide) hf17 (fun _ h9 => h9) rfl dX8_hang_69 ?_
                    refine lv_iload hx hb dX8_hang_72 (lv_at hl 4 rfl) ?_
                    have h74 : vp_in (nI i) 40 := iin
                    refine va_iald hx hb hK hP 2 0 rfl rfl h74 dX8_hang_74 ?_
                    refine lv_topi (fun x74 ex74 => ?_)
                    have ex74 : x74 = A_43 4 (nI i).toNatClampNeg := ex74
                    have ex74 : x74 = nI (to i) := by rw [ex74, icl, hA 4 (by decide)]; exact gi.2.1.1
                    subst ex74
                    have h75 : vp_in (nI (to i)) 16 := vp_in_nI (by omega) (by omega)
                    refine va_zald hx hb hK hP 14 2 rfl rfl h75 dX8_hang_75 ?_
                    refine lv_topi (fun x75 ex75 => ?_)
                    have ex75 : x75 = A_43 19 (nI (to i)).toNatClampNeg := ex75
                    have ex75 : x75 = (if S2 (to i) = true then 1 else 0) := by rw [ex75, nI_clamp (by omega)]; exact hz2 _ l2
                    refine lv_icmp_ne (tgt := 82) hx hb dX8_hang_76 (by decide) (fun c76 => ?_) (fun c76 => ?_)
                    · -- 76 taken
                      have c76 : S2 (fr i) ≠ S2 (to i) := fun h => c76 (by rw [ex63, ex75, h])
                      have hsame := ends_same (by omega) g.en (show i < ne by omega)
                      have hpair : (jRun fr to (fl ne) ne).1 (fr i) = (jRun fr to (fl ne) ne).1 u2 ∧ (jRun fr to (fl ne) ne).1 (to i) = (jRun fr to (fl ne) ne).1 u2 := by
                        cases h1 : S2 (fr i) with
                        | true => have := hsg2 _ l1 h1; exact ⟨this, by rw [← hsame]; exact this⟩
                        | false => have h2 : S2 (to i) = true := by cases h2 : S2 (to i) with | true => rfl | false => exact absurd (by rw [h1, h2]) c76
                                   have := hsg2 _ l2 h2; exact ⟨by rw [hsame]; exact this, this⟩
                      refine lv_aload_n hx hb dX8_hang_82 rfl (lv_at hl 0 rfl) ?_
                      refine va_get (D := (dC, dI)) (ci := 8) (v := .ref (R 19)) (C := RX8) (T := TX8) (N := 20) hx hb hts hinX8 hown hK hP 0 rfl rfl 19 (by decide) hf54 (fun _ h9 => h9) rfl dX8_hang_83 ?_
                      refine lv_aload_n hx hb dX8_hang_86 rfl (lv_at hl 0 rfl) ?_
                      refine va_get (D := (dC, dI)) (ci := 8) (v := .ref (R 3)) (C := RX8) (T := TX8) (N := 20) hx hb hts hinX8 hown hK hP 0 rfl rfl 3 (by decide) hf13 (fun _ h9 => h9) rfl dX8_hang_87 ?_
                      refine lv_iload hx hb dX8_hang_90 (lv_at hl 4 rfl) ?_
                      have h92 : vp_in (nI i) 40 := iin
                      refine va_iald hx hb hK hP 1 0 rfl rfl h92 dX8_hang_92 ?_
                      refine lv_topi (fun x92 ex92 => ?_)
                      have ex92 : x92 = A_43 3 (nI i).toNatClampNeg := ex92
                      have ex92 : x92 = nI (fr i) := by rw [ex92, icl, hA 3 (by decide)]; exact gi.1.1
                      subst ex92
                      refine lv_iconst (v := 1) hx hb dX8_hang_93 (by decide) ?_
                      have h94 : vp_in (nI (fr i)) 16 := vp_in_nI (by omega) (by omega)
                      refine va_zast hx hb hK hP hD hS 14 2 rfl rfl h94 dX8_hang_94 (fun H locs hP hD hS => ?_)
                      obtain ⟨A94, eA94⟩ : ∃ zz : Nat → Nat → Int32, zz = va_up A_43 19 (upd (A_43 19) (nI (fr i)).toNatClampNeg (vp_nar .boolean 1)) := ⟨_, rfl⟩
                      have hP : va_P (dC, dI) vwCl (MW cI cJ cZ R (I, A94, B)) H := by rw [eA94]; exact hP
                      have hD : va_D Aa (MW cI cJ cZ R (I, A94, B)) := by rw [eA94]; exact hD
                      refine lv_aload_n hx hb dX8_hang_95 rfl (lv_at hl 0 rfl) ?_
                      refine va_get (D := (dC, dI)) (ci := 8) (v := .ref (R 19)) (C := RX8) (T := TX8) (N := 20) hx hb hts hinX8 hown hK hP 0 rfl rfl 19 (by decide) hf54 (fun _ h9 => h9) rfl dX8_hang_96 ?_
                      refine lv_aload_n hx hb dX8_hang_99 rfl (lv_at hl 0 rfl) ?_
                      refine va_get (D := (dC, dI)) (ci := 8) (v := .ref (R 4)) (C := RX8) (T := TX8) (N := 20) hx hb hts hinX8 hown hK hP 0 rfl rfl 4 (by decide) hf17 (fun _ h9 => h9) rfl dX8_hang_100 ?_
                      refine lv_iload hx hb dX8_hang_103 (lv_at hl 4 rfl) ?_
                      have h105 : vp_in (nI i) 40 := iin
                      refine va_iald hx hb hK hP 2 0 rfl rfl h105 dX8_hang_105 ?_
                      refine lv_topi (fun x105 ex105 => ?_)
                      have ex105 : x105 = A94 4 (nI i).toNatClampNeg := ex105
                      have ex105 : x105 = nI (to i) := by rw [ex105, icl, eA94, up_ne (by decide), hA 4 (by decide)]; exact gi.2.1.1
                      subst ex105
                      refine lv_iconst (v := 1) hx hb dX8_hang_106 (by decide) ?_
                      have h107 : vp_in (nI (to i)) 16 := vp_in_nI (by omega) (by omega)
                      refine va_zast hx hb hK hP hD hS 14 2 rfl rfl h107 dX8_hang_107 (fun H locs hP hD hS => ?_)
                      obtain ⟨A107, eA107⟩ : ∃ zz : Nat → Nat → Int32, zz = va_up A94 19 (upd (A94 19) (nI (to i)).toNatClampNeg (vp_nar .boolean 1)) := ⟨_, rfl⟩
                      have hP : va_P (dC, dI) vwCl (MW cI cJ cZ R (I, A107, B)) H := by rw [eA107]; exact hP
                      have hD : va_D Aa (MW cI cJ cZ R (I, A107, B)) := by rw [eA107]; exact hD
                      refine lv_iconst (v := 1) hx hb dX8_hang_108 (by decide) ?_
                      refine lv_istore_n (lv' := [(3, .int 1), (0, .ref (R 0)), (1, .int (nI u2)), (2, .int (nI v2)), (4, .int (nI i))]) hx hb dX8_hang_109 rfl hl (by decide) rfl (fun ls hl => ?_)
                      obtain ⟨x110, ex110⟩ : ∃ zz : Int32, zz = nI i + (1) := ⟨_, rfl⟩
                      refine lv_iinc (v := x110) (lv' := [(4, .int x110), (3, .int 1), (0, .ref (R 0)), (1, .int (nI u2)), (2, .int (nI v2))]) hx hb dX8_hang_110 hl (k := 4) rfl (by rw [ex110]; rfl) (by decide) rfl (fun ls hl => ?_)
                      have ex110 : x110 = nI (i + 1) := by rw [ex110]; exact nI_1 i
                      subst ex110
                      refine lv_goto (tgt := 43) hx hb dX8_hang_113 (by decide) ?_
                      exact ih43 (i + 1) (sUp S2 (fr i) (to i)) 1 A107 ls _ _ (by omega) ⟨by omega, zR_up hz2 (by rw [eA107, up_self, eA94, up_self, nI_clamp (by omega), nI_clamp (by omega)]; rfl), by unfold sUp; rw [hsu2]; rfl, fun k hk hs => by
                by_cases e1 : k = fr i
                · rw [e1]; exact hpair.1
                · by_cases e2 : k = to i
                  · rw [e2]; exact hpair.2
                  · rw [sUp_o e1 e2] at hs; exact hsg2 k hk hs, fun k hk => by rw [eA107, up_ne hk, eA94, up_ne hk]; exact hA k hk, Or.inr ⟨rfl, by have := sUp_ct gi.1.2 gi.2.1.2 c76; rcases hcc with h | h; rw [← h.2.1]; exact this; omega⟩⟩ hP hD hS (lv_sub hl [2, 3, 4, 1, 0] rfl)
                    · -- 76 not
                      have c76 : S2 (fr i) = S2 (to i) := zz_eq (by rw [← ex63, ← ex75]; exact c76)
                      refine lv_goto (tgt := 110) hx hb dX8_hang_79 (by decide) ?_
                      obtain ⟨x110, ex110⟩ : ∃ zz : Int32, zz = nI i + (1) := ⟨_, rfl⟩
                      refine lv_iinc (v := x110) (lv' := [(4, .int x110), (0, .ref (R 0)), (1, .int (nI u2)), (2, .int (nI v2)), (3, .int cc)]) hx hb dX8_hang_110 hl (k := 4) rfl (by rw [ex110]; rfl) (by decide) rfl (fun ls hl => ?_)
                      have ex110 : x110 = nI (i + 1) := by rw [ex110]; exact nI_1 i
                      subst ex110
                      refine lv_goto (tgt := 43) hx hb dX8_hang_113 (by decide) ?_
                      exact ih43 (i + 1) S2 cc A_43 ls _ _ (by omega) ⟨by omega, hz2, hsu2, hsg2, hA, by rcases hcc with h | h; refine Or.inl ⟨h.1, h.2.1, fun e he => ?_⟩; by_cases e1 : e = i; rw [e1, ← h.2.1]; exact c76; exact h.2.2 e (by omega); exact Or.inr h⟩ hP hD hS (lv_sub hl [1, 2, 3, 4, 0] rfl)
              exact K43 _ 0 S 0 A_34 ls _ _ (Nat.lt_succ_self _) ⟨Nat.zero_le _, hz, hsu, hsg, hA0, Or.inl ⟨rfl, rfl, fun e h => absurd h (Nat.not_lt_zero _)⟩⟩ hP hD hS (lv_sub hl [2, 3, 4, 1, 0] rfl)
        exact K34 _ (fun k => k == u2) 1 A_2 ls _ _ (Nat.lt_succ_self _) ⟨a1, by simp, fun k _ h => by rw [show k = u2 by simpa using h], a2, Or.inl rfl⟩ hP hD hS (lv_sub hl [1, 2, 3, 0] rfl)
      · -- 7 not
        rw [g4, nI_leI (by omega) (by omega)] at c7
        have icl : (nI i).toNatClampNeg = i := nI_clamp (by omega)
        have iin : vp_in (nI i) 16 := vp_in_nI (by omega) (by omega)
        refine lv_aload_n hx hb dX8_hang_10 rfl (lv_at hl 0 rfl) ?_
        refine va_get (D := (dC, dI)) (ci := 8) (v := .ref (R 19)) (C := RX8) (T := TX8) (N := 20) hx hb hts hinX8 hown hK hP 0 rfl rfl 19 (by decide) hf54 (fun _ h9 => h9) rfl dX8_hang_11 ?_
        refine lv_iload_n hx hb dX8_hang_14 rfl (lv_at hl 3 rfl) ?_
        refine lv_iload_n hx hb dX8_hang_15 rfl (lv_at hl 3 rfl) ?_
        refine lv_iload_n hx hb dX8_hang_16 rfl (lv_at hl 1 rfl) ?_
        refine lv_icmp_ne (tgt := 24) hx hb dX8_hang_17 (by decide) (fun c17 => ?_) (fun c17 => ?_)
        · -- 17 taken
          rw [nI_eq (by omega) (by omega)] at c17
          refine lv_iconst (v := 0) hx hb dX8_hang_24 (by decide) ?_
          have h25 : vp_in (nI i) 16 := iin
          refine va_zast hx hb hK hP hD hS 14 2 rfl rfl h25 dX8_hang_25 (fun H locs hP hD hS => ?_)
          obtain ⟨A25, eA25⟩ : ∃ zz : Nat → Nat → Int32, zz = va_up A_2 19 (upd (A_2 19) (nI i).toNatClampNeg (vp_nar .boolean 0)) := ⟨_, rfl⟩
          have hP : va_P (dC, dI) vwCl (MW cI cJ cZ R (I, A25, B)) H := by rw [eA25]; exact hP
          have hD : va_D Aa (MW cI cJ cZ R (I, A25, B)) := by rw [eA25]; exact hD
          obtain ⟨x26, ex26⟩ : ∃ zz : Int32, zz = nI i + (1) := ⟨_, rfl⟩
          refine lv_iinc (v := x26) (lv' := [(3, .int x26), (0, .ref (R 0)), (1, .int (nI u2)), (2, .int (nI v2))]) hx hb dX8_hang_26 hl (k := 3) rfl (by rw [ex26]; rfl) (by decide) rfl (fun ls hl => ?_)
          have ex26 : x26 = nI (i + 1) := by rw [ex26]; exact nI_1 i
          subst ex26
          refine lv_goto (tgt := 2) hx hb dX8_hang_29 (by decide) ?_
          exact ih2 (i + 1) A25 ls _ _ (by omega) ⟨by omega, fun k hk => by
                rw [eA25, up_self, icl]
                by_cases e1 : k = i
                · rw [e1, pk_us, if_neg (by simp [c17])]; rfl
                · rw [pk_un e1]; exact a1 k (by omega), fun k hk => by rw [eA25, up_ne hk]; exact a2 k hk⟩ hP hD hS (lv_sub hl [1, 2, 3, 0] rfl)
        · -- 17 not
          rw [nI_eq (by omega) (by omega)] at c17
          refine lv_iconst (v := 1) hx hb dX8_hang_20 (by decide) ?_
          refine lv_goto (tgt := 25) hx hb dX8_hang_21 (by decide) ?_
          have h25 : vp_in (nI i) 16 := iin
          refine va_zast hx hb hK hP hD hS 14 2 rfl rfl h25 dX8_hang_25 (fun H locs hP hD hS => ?_)
          obtain ⟨A25, eA25⟩ : ∃ zz : Nat → Nat → Int32, zz = va_up A_2 19 (upd (A_2 19) (nI i).toNatClampNeg (vp_nar .boolean 1)) := ⟨_, rfl⟩
          have hP : va_P (dC, dI) vwCl (MW cI cJ cZ R (I, A25, B)) H := by rw [eA25]; exact hP
          have hD : va_D Aa (MW cI cJ cZ R (I, A25, B)) := by rw [eA25]; exact hD
          obtain ⟨x26, ex26⟩ : ∃ zz : Int32, zz = nI i + (1) := ⟨_, rfl⟩
          refine lv_iinc (v := x26) (lv' := [(3, .int x26), (0, .ref (R 0)), (1, .int (nI u2)), (2, .int (nI v2))]) hx hb dX8_hang_26 hl (k := 3) rfl (by rw [ex26]; rfl) (by decide) rfl (fun ls hl => ?_)
          have ex26 : x26 = nI (i + 1) := by rw [ex26]; exact nI_1 i
          subst ex26
          refine lv_goto (tgt := 2) hx hb dX8_hang_29 (by decide) ?_
          exact ih2 (i + 1) A25 ls _ _ (by omega) ⟨by omega, fun k hk => by
                rw [eA25, up_self, icl]
                by_cases e1 : k = i
                · rw [e1, pk_us, if_pos (by simp [c17])]; rfl
                · rw [pk_un e1]; exact a1 k (by omega), fun k hk => by rw [eA25, up_ne hk]; exact a2 k hk⟩ hP hD hS (lv_sub hl [1, 2, 3, 0] rfl)
  exact K2 _ 0 A ls _ _ (Nat.lt_succ_self _) ⟨Nat.zero_le _, fun k h => absurd h (Nat.not_lt_zero _), fun _ _ => rfl⟩ hP hD hS (lv_sub hl [1, 2, 3, 0] rfl)
set_option maxHeartbeats 4000000 in
set_option maxRecDepth 100000 in
theorem k_X8_isFirst (l : Launch) (dC : Nat → ClassId) (dI : Nat → Nat → Nat) (cI cJ cZ cII cJJ : ClassId) (R : Nat → Nat) (I : Nat → Int32) (A : Nat → Nat → Int32) (B : Nat → Nat → Int64) (nv ne : Nat) (fr to wt : Nat → Nat) (q : JS) (v2 : Nat) (g : gM nv ne fr to wt I A) (hq : rG nv q.1 (A 8)) (hv : v2 < nv) : ctI l (dC, dI) (tyL cI cJ cZ cII cJJ) (MW cI cJ cZ R) yX8_isFirst wsX8_isFirst (1, 30) [.ref (R 0), .int (nI v2)] (I, A, B) (fun r u => ((r = 0 ∧ fsP fr to ne q v2 v2) ∨ (r = 1 ∧ ¬ fsP fr to ne q v2 v2)) ∧ u.1 = I ∧ (∀ k, k ≠ 19 → u.2.1 k = A k) ∧ u.2.2 = B) := by
  refine ctI_intro (cc := cX8_isFirst) (maxL := 4) (by decide) rfl (Nat.le_of_ble_eq_true rfl) ?_
  intro p e s m below meth c ls Aa Q F hK hN hP hD hS hA hl hret
  have hx := F.1
  have hb := F.2.1
  have hown : s.vm.findClass RX8 = some m.cls := F.2.2.2.1
  have hts := F.2.2.2.2
  have hinX8 : ∀ w ∈ wsX80, w ∈ wsX8_isFirst := by decide +kernel
  have hf27 := hts (.fieldLink RX8 27 "CycleHouseModel" "group" "[I") (by decide +kernel)
  have hl : lv_has ls 4 [(0, .ref (R 0)), (1, .int (nI v2))] := hl
  obtain ⟨g1, g2, g3, g4, g5, g6⟩ := id g
  refine lv_iconst (v := 1) hx hb dX8_isFirst_0 (by decide) ?_
  refine lv_istore_n (lv' := [(2, .int 1), (0, .ref (R 0)), (1, .int (nI v2))]) hx hb dX8_isFirst_1 rfl hl (by decide) rfl (fun ls hl => ?_)
  refine lv_iconst (v := 0) hx hb dX8_isFirst_2 (by decide) ?_
  refine lv_istore_n (lv' := [(3, .int 0), (2, .int 1), (0, .ref (R 0)), (1, .int (nI v2))]) hx hb dX8_isFirst_3 rfl hl (by decide) rfl (fun ls hl => ?_)
  have K4 : ∀ (kn : Nat) (i : Nat) (y : Int32) (A_4 : Nat → Nat → Int32) (ls : Array Slot) (H : Heap) (locs : List Loc), v2 - i < kn → (i ≤ v2 ∧ ((y = 0 ∧ fsP fr to ne q v2 i) ∨ (y = 1 ∧ ¬ fsP fr to ne q v2 i)) ∧ ∀ k, k ≠ 19 → A_4 k = A k) → va_P (dC, dI) vwCl (MW cI cJ cZ R (I, A_4, B)) H → va_D Aa (MW cI cJ cZ R (I, A_4, B)) → va_S Aa s.heap H locs → lv_has ls 4 [(0, .ref (R 0)), (1, .int (nI v2)), (2, .int y), (3, .int (nI i))] → W p l e (ctR (1, 30)) s m #[.ref (R 0), .int (nI v2)] below meth c H locs 0 0 Q (F0 m 4 ls []) := by
    intro kn
    induction kn with
    | zero => intro i y A_4 ls H locs hmu; exact absurd hmu (Nat.not_lt_zero _)
    | succ kn ih4 =>
      intro i y A_4 ls H locs mu4 inv4 hP hD hS hl
      obtain ⟨hi, hy, hAx⟩ := inv4
      have gg : gM nv ne fr to wt I A_4 := ⟨g1, g2, g3, g4, g5, by rw [hAx 3 (by decide), hAx 4 (by decide), hAx 5 (by decide)]; exact g6⟩
      refine lv_iload_n hx hb dX8_isFirst_4 rfl (lv_at hl 3 rfl) ?_
      refine lv_iload_n hx hb dX8_isFirst_5 rfl (lv_at hl 1 rfl) ?_
      refine lv_icmp_ge (tgt := 44) hx hb dX8_isFirst_6 (by decide) (fun c6 => ?_) (fun c6 => ?_)
      · -- 6 taken
        rw [nI_leI (by omega) (by omega)] at c6
        have hge : i = v2 := by omega
        rw [hge] at hy
        refine lv_iload_n hx hb dX8_isFirst_44 rfl (lv_at hl 2 rfl) ?_
        refine hret 45 ls _ _ y (I, A_4, B) dX8_isFirst_45 (by rcases hy with h | h <;> rw [h.1] <;> rfl) ?_ hP hD hS
        try dsimp only
        exact ⟨hy, rfl, hAx, rfl⟩
      · -- 6 not
        rw [nI_leI (by omega) (by omega)] at c6
        have icl : (nI i).toNatClampNeg = i := nI_clamp (by omega)
        have iin : vp_in (nI i) 16 := vp_in_nI (by omega) (by omega)
        have l1 := (hq i (by omega)).2
        refine lv_iload_n hx hb dX8_isFirst_9 rfl (lv_at hl 2 rfl) ?_
        refine lv_if_eq (tgt := 36) hx hb dX8_isFirst_10 (by decide) (fun c10 => ?_) (fun c10 => ?_)
        · -- 10 taken
          have c10 : fsP fr to ne q v2 i := hy.elim (fun h => h.2) (fun h => by rw [h.1] at c10; exact absurd c10 (by decide))
          refine lv_iconst (v := 0) hx hb dX8_isFirst_36 (by decide) ?_
          refine lv_istore_n (lv' := [(2, .int 0), (0, .ref (R 0)), (1, .int (nI v2)), (3, .int (nI i))]) hx hb dX8_isFirst_37 rfl hl (by decide) rfl (fun ls hl => ?_)
          obtain ⟨x38, ex38⟩ : ∃ zz : Int32, zz = nI i + (1) := ⟨_, rfl⟩
          refine lv_iinc (v := x38) (lv' := [(3, .int x38), (2, .int 0), (0, .ref (R 0)), (1, .int (nI v2))]) hx hb dX8_isFirst_38 hl (k := 3) rfl (by rw [ex38]; rfl) (by decide) rfl (fun ls hl => ?_)
          have ex38 : x38 = nI (i + 1) := by rw [ex38]; exact nI_1 i
          subst ex38
          refine lv_goto (tgt := 4) hx hb dX8_isFirst_41 (by decide) ?_
          exact ih4 (i + 1) 0 A_4 ls _ _ (by omega) ⟨by omega, Or.inl ⟨rfl, fsP_s c10⟩, hAx⟩ hP hD hS (lv_sub hl [2, 3, 1, 0] rfl)
        · -- 10 not
          have c10 : ¬ fsP fr to ne q v2 i := hy.elim (fun h => absurd h.1 c10) (fun h => h.2)
          refine lv_aload_n hx hb dX8_isFirst_13 rfl (lv_at hl 0 rfl) ?_
          refine va_get (D := (dC, dI)) (ci := 8) (v := .ref (R 8)) (C := RX8) (T := TX8) (N := 20) hx hb hts hinX8 hown hK hP 0 rfl rfl 8 (by decide) hf27 (fun _ h9 => h9) rfl dX8_isFirst_14 ?_
          refine lv_iload_n hx hb dX8_isFirst_17 rfl (lv_at hl 3 rfl) ?_
          have h18 : vp_in (nI i) 16 := iin
          refine va_iald hx hb hK hP 5 0 rfl rfl h18 dX8_isFirst_18 ?_
          refine lv_topi (fun x18 ex18 => ?_)
          have ex18 : x18 = A_4 8 (nI i).toNatClampNeg := ex18
          have ex18 : x18 = nI (q.1 i) := by rw [ex18, icl, hAx 8 (by decide)]; exact (hq i (by omega)).1
          subst ex18
          refine lv_iload_n hx hb dX8_isFirst_19 rfl (lv_at hl 3 rfl) ?_
          refine lv_icmp_ne (tgt := 32) hx hb dX8_isFirst_20 (by decide) (fun c20 => ?_) (fun c20 => ?_)
          · -- 20 taken
            rw [nI_eq (by omega) (by omega)] at c20
            refine lv_iconst (v := 1) hx hb dX8_isFirst_32 (by decide) ?_
            refine lv_goto (tgt := 37) hx hb dX8_isFirst_33 (by decide) ?_
            refine lv_istore_n (lv' := [(2, .int 1), (0, .ref (R 0)), (1, .int (nI v2)), (3, .int (nI i))]) hx hb dX8_isFirst_37 rfl hl (by decide) rfl (fun ls hl => ?_)
            obtain ⟨x38, ex38⟩ : ∃ zz : Int32, zz = nI i + (1) := ⟨_, rfl⟩
            refine lv_iinc (v := x38) (lv' := [(3, .int x38), (2, .int 1), (0, .ref (R 0)), (1, .int (nI v2))]) hx hb dX8_isFirst_38 hl (k := 3) rfl (by rw [ex38]; rfl) (by decide) rfl (fun ls hl => ?_)
            have ex38 : x38 = nI (i + 1) := by rw [ex38]; exact nI_1 i
            subst ex38
            refine lv_goto (tgt := 4) hx hb dX8_isFirst_41 (by decide) ?_
            exact ih4 (i + 1) 1 A_4 ls _ _ (by omega) ⟨by omega, Or.inr ⟨rfl, fsP_n c10 (fun h => c20 h.1)⟩, hAx⟩ hP hD hS (lv_sub hl [2, 3, 1, 0] rfl)
          · -- 20 not
            rw [nI_eq (by omega) (by omega)] at c20
            refine lv_aload_n hx hb dX8_isFirst_23 rfl (lv_at hl 0 rfl) ?_
            refine lv_iload_n hx hb dX8_isFirst_24 rfl (lv_at hl 3 rfl) ?_
            refine lv_iload_n hx hb dX8_isFirst_25 rfl (lv_at hl 1 rfl) ?_
            refine ct_calli hD hS hA (va_runV (As := [.int (nI i), .int (nI v2)]) (rest := []) F ((k_X8_hang l dC dI cI cJ cZ cII cJJ R I A_4 B nv ne fr to wt i v2 gg (by omega) hv) _) (cwV 2 hts gX8_isFirst_X8_hang rfl rfl rfl (by decide +kernel) ⟨(Nat.le_of_ble_eq_true rfl), (Nat.le_of_ble_eq_true rfl)⟩) (ct_preV 0 8 hK hN hP hD rfl rfl) rfl rfl hl.1 rfl (lv_room (Nat.le_of_ble_eq_true rfl)) dX8_isFirst_26 ⟨(Nat.le_of_ble_eq_true rfl), (Nat.le_of_ble_eq_true rfl)⟩) (fun r26 u26 H locs w26 hP hD hS => ?_)
            obtain ⟨I26, A26, B26⟩ := u26
            have eI26 : I = I26 := w26.2.1.symm
            subst eI26
            have eB26 : B = B26 := w26.2.2.2.symm
            subst eB26
            refine lv_if_ne (tgt := 36) hx hb dX8_isFirst_29 (by decide) (fun c29 => ?_) (fun c29 => ?_)
            · -- 29 taken
              have c29 : (jRun fr to (fl ne) ne).1 i = (jRun fr to (fl ne) ne).1 v2 := Classical.byContradiction (fun h => by rw [w26.1, if_neg h] at c29; exact c29 rfl)
              refine lv_iconst (v := 0) hx hb dX8_isFirst_36 (by decide) ?_
              refine lv_istore_n (lv' := [(2, .int 0), (0, .ref (R 0)), (1, .int (nI v2)), (3, .int (nI i))]) hx hb dX8_isFirst_37 rfl hl (by decide) rfl (fun ls hl => ?_)
              obtain ⟨x38, ex38⟩ : ∃ zz : Int32, zz = nI i + (1) := ⟨_, rfl⟩
              refine lv_iinc (v := x38) (lv' := [(3, .int x38), (2, .int 0), (0, .ref (R 0)), (1, .int (nI v2))]) hx hb dX8_isFirst_38 hl (k := 3) rfl (by rw [ex38]; rfl) (by decide) rfl (fun ls hl => ?_)
              have ex38 : x38 = nI (i + 1) := by rw [ex38]; exact nI_1 i
              subst ex38
              refine lv_goto (tgt := 4) hx hb dX8_isFirst_41 (by decide) ?_
              exact ih4 (i + 1) 0 A26 ls _ _ (by omega) ⟨by omega, Or.inl ⟨rfl, fsP_i c20 c29⟩, fun k hk => (w26.2.2.1 k hk).trans (hAx k hk)⟩ hP hD hS (lv_sub hl [2, 3, 1, 0] rfl)
            · -- 29 not
              have c29 : ¬ (jRun fr to (fl ne) ne).1 i = (jRun fr to (fl ne) ne).1 v2 := fun h => by rw [w26.1, if_pos h] at c29; exact absurd c29 (by decide)
              refine lv_iconst (v := 1) hx hb dX8_isFirst_32 (by decide) ?_
              refine lv_goto (tgt := 37) hx hb dX8_isFirst_33 (by decide) ?_
              refine lv_istore_n (lv' := [(2, .int 1), (0, .ref (R 0)), (1, .int (nI v2)), (3, .int (nI i))]) hx hb dX8_isFirst_37 rfl hl (by decide) rfl (fun ls hl => ?_)
              obtain ⟨x38, ex38⟩ : ∃ zz : Int32, zz = nI i + (1) := ⟨_, rfl⟩
              refine lv_iinc (v := x38) (lv' := [(3, .int x38), (2, .int 1), (0, .ref (R 0)), (1, .int (nI v2))]) hx hb dX8_isFirst_38 hl (k := 3) rfl (by rw [ex38]; rfl) (by decide) rfl (fun ls hl => ?_)
              have ex38 : x38 = nI (i + 1) := by rw [ex38]; exact nI_1 i
              subst ex38
              refine lv_goto (tgt := 4) hx hb dX8_isFirst_41 (by decide) ?_
              exact ih4 (i + 1) 1 A26 ls _ _ (by omega) ⟨by omega, Or.inr ⟨rfl, fsP_n c10 (fun h => c29 h.2)⟩, fun k hk => (w26.2.2.1 k hk).trans (hAx k hk)⟩ hP hD hS (lv_sub hl [2, 3, 1, 0] rfl)
  exact K4 _ 0 1 A ls _ _ (Nat.lt_succ_self _) ⟨Nat.zero_le _, Or.inr ⟨rfl, fsP_0⟩, fun _ _ => rfl⟩ hP hD hS (lv_sub hl [2, 3, 1, 0] rfl)
