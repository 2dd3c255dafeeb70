set_option maxHeartbeats 4000000 in
set_option maxRecDepth 100000 in
theorem k_X8_edge (l : Launch) (dC : Nat → ClassId) (dI : Nat → Nat → Nat) (cI cJ cZ cII cJJ : ClassId) (R : Nat → Nat) (I : Nat → Int32) (A : Nat → Nat → Int32) (B : Nat → Nat → Int64) (nv ne : Nat) (fr to wt : Nat → Nat) (a b w : Int32) (g : gM nv ne fr to wt I A) : ctI l (dC, dI) (tyL cI cJ cZ cII cJJ) (MW cI cJ cZ R) yX8_edge wsX8_edge (3, 80) [.ref (R 0), .int a, .int b, .int w] (I, A, B) (fun r u => (bE nv a b w → u.1 0 = 1 ∧ fQ I A B u) ∧ (¬ bE nv a b w → fE ne (jRun fr to (fl ne) ne) a b → u.1 0 = 2 ∧ fQ I A B u) ∧ (¬ bE nv a b w → ¬ fE ne (jRun fr to (fl ne) ne) a b → u.1 0 = 0 ∧ r = nI ne ∧ nE ne a b w I A B u)) := by
  refine ctI_intro (cc := cX8_edge) (maxL := 7) (by decide) rfl (Nat.le_of_ble_eq_true rfl) ?_
  intro p e s m below meth c ls Aa Q F hK hN hP hD hS hA hl hret
  have hx := F.1
  have hb := F.2.1
  have hown : s.vm.findClass RX8 = some m.cls := F.2.2.2.1
  have hts := F.2.2.2.2
  have hinX8 : ∀ w ∈ wsX80, w ∈ wsX8_edge := by decide +kernel
  have hf61 := hts (.fieldLink RX8 61 "CycleHouseModel" "m" "I") (by decide +kernel)
  have hf27 := hts (.fieldLink RX8 27 "CycleHouseModel" "group" "[I") (by decide +kernel)
  have hf13 := hts (.fieldLink RX8 13 "CycleHouseModel" "from" "[I") (by decide +kernel)
  have hf17 := hts (.fieldLink RX8 17 "CycleHouseModel" "to" "[I") (by decide +kernel)
  have hf20 := hts (.fieldLink RX8 20 "CycleHouseModel" "weight" "[I") (by decide +kernel)
  have hl : lv_has ls 7 [(0, .ref (R 0)), (1, .int a), (2, .int b), (3, .int w)] := hl
  have K31 : ∀ (o : Int32) (ls : Array Slot) (H : Heap) (locs : List Loc), ((o = 1 ∧ bE nv a b w) ∨ (o = 0 ∧ ¬ bE nv a b w)) → va_P (dC, dI) vwCl (MW cI cJ cZ R (I, A, B)) H → va_D Aa (MW cI cJ cZ R (I, A, B)) → va_S Aa s.heap H locs → lv_has ls 7 [(0, .ref (R 0)), (1, .int a), (2, .int b), (3, .int w)] → W p l e (ctR (3, 80)) s m #[.ref (R 0), .int a, .int b, .int w] below meth c H locs 0 0 Q (F0 m 31 ls [.int o]) := by
    intro o ls H locs inv31 hP hD hS hl
    refine lv_istore (lv' := [(4, .int o), (0, .ref (R 0)), (1, .int a), (2, .int b), (3, .int w)]) hx hb dX8_edge_31 hl (by decide) rfl (fun ls hl => ?_)
    have K85 : ∀ (f : Int32) (I_85 : Nat → Int32) (A_85 : Nat → Nat → Int32) (B_85 : Nat → Nat → Int64) (ls : Array Slot) (H : Heap) (locs : List Loc), (fJ I A B (I_85, A_85, B_85) ∧ ((o = 1 ∧ f = 0 ∧ bE nv a b w) ∨ (o = 0 ∧ ¬ bE nv a b w ∧ f = 1 ∧ fE ne (jRun fr to (fl ne) ne) a b) ∨ (o = 0 ∧ ¬ bE nv a b w ∧ f = 0 ∧ ¬ fE ne (jRun fr to (fl ne) ne) a b))) → va_P (dC, dI) vwCl (MW cI cJ cZ R (I_85, A_85, B_85)) H → va_D Aa (MW cI cJ cZ R (I_85, A_85, B_85)) → va_S Aa s.heap H locs → lv_has ls 7 [(0, .ref (R 0)), (1, .int a), (2, .int b), (3, .int w), (4, .int o), (5, .int f)] → W p l e (ctR (3, 80)) s m #[.ref (R 0), .int a, .int b, .int w] below meth c H locs 0 0 Q (F0 m 85 ls []) := by
      intro f I_85 A_85 B_85 ls H locs inv85 hP hD hS hl
      obtain ⟨hf, h3⟩ := inv85
      refine lv_aload_n hx hb dX8_edge_85 rfl (lv_at hl 0 rfl) ?_
      refine lv_iload hx hb dX8_edge_86 (lv_at hl 4 rfl) ?_
      refine lv_iload hx hb dX8_edge_88 (lv_at hl 5 rfl) ?_
      refine ct_calli hD hS hA (va_runV (As := [.int o, .int f]) (rest := []) F ((k_X8_throwing l dC dI cI cJ cZ cII cJJ R I_85 A_85 B_85 o f) _) (cwV 2 hts gX8_edge_X8_throwing rfl rfl rfl (by decide +kernel) ⟨(Nat.le_of_ble_eq_true rfl), (Nat.le_of_ble_eq_true rfl)⟩) (ct_preV 0 8 hK hN hP hD rfl rfl) rfl rfl hl.1 rfl (lv_room (Nat.le_of_ble_eq_true rfl)) dX8_edge_90 ⟨(Nat.le_of_ble_eq_true rfl), (Nat.le_of_ble_eq_true rfl)⟩) (fun r90 u90 H locs w90 hP hD hS => ?_)
      obtain ⟨w90, hu90⟩ := w90
      obtain ⟨I90, A90, B90⟩ := u90
      have eI90 := congrArg (fun z => z.1) hu90
      dsimp only at eI90
      have eA90 : A_85 = A90 := (congrArg (fun z => z.2.1) hu90).symm
      subst eA90
      have eB90 : B_85 = B90 := (congrArg (fun z => z.2.2) hu90).symm
      subst eB90
      clear hu90
      have gg := g.fj hf
      have fQ0 : ∀ v, I90 = va_up I_85 0 v → fQ I A B (I90, A_85, B_85) := fun v h => fQ.of (fun k h0 h1 => by rw [h, up_ne h0]; exact hf.1 k h1) hf.2.1 hf.2.2
      refine lv_if_eq (tgt := 98) hx hb dX8_edge_93 (by decide) (fun c93 => ?_) (fun c93 => ?_)
      · -- 93 taken
        rw [w90] at c93
        have h4 : o = 0 ∧ ¬ bE nv a b w ∧ f = 0 ∧ ¬ fE ne (jRun fr to (fl ne) ne) a b := by rcases h3 with h | h | h; rw [h.1, h.2.1] at c93; exact absurd c93 (by decide); rw [h.1, h.2.2.1] at c93; exact absurd c93 (by decide); exact h
        have h2 : I90 2 = nI ne := by rw [eI90, up_ne (by decide)]; exact gg.2.2.2.2.1
        have g3 := g.2.2.1
        have hne : ne < 40 := Nat.lt_of_le_of_ne g3 (fun h => h4.2.2.2 (Or.inl h))
        have hcl : (I90 2).toNatClampNeg = ne := by rw [h2]; exact nI_clamp (by omega)
        have hin : vp_in (I90 2) 40 := by rw [h2]; exact vp_in_nI hne (by omega)
        refine lv_aload_n hx hb dX8_edge_98 rfl (lv_at hl 0 rfl) ?_
        refine va_get (D := (dC, dI)) (ci := 8) (v := .ref (R 3)) (C := RX8) (T := TX8) (N := 20) hx hb hts hinX8 hown hK hP 0 rfl rfl 3 (by decide) hf13 (fun _ h9 => h9) rfl dX8_edge_99 ?_
        refine lv_aload_n hx hb dX8_edge_102 rfl (lv_at hl 0 rfl) ?_
        refine va_get (D := (dC, dI)) (ci := 8) (v := .int (I90 2)) (C := RX8) (T := TX8) (N := 20) hx hb hts hinX8 hown hK hP 0 rfl rfl 2 (by decide) hf61 (fun _ h9 => h9) rfl dX8_edge_103 ?_
        refine lv_iload_n hx hb dX8_edge_106 rfl (lv_at hl 1 rfl) ?_
        have h107 : vp_in (I90 2) 40 := hin
        refine va_iast hx hb hK hP hD hS 1 0 rfl rfl h107 dX8_edge_107 (fun H locs hP hD hS => ?_)
        obtain ⟨A107, eA107⟩ : ∃ z : Nat → Nat → Int32, z = va_up A_85 3 (upd (A_85 3) (I90 2).toNatClampNeg a) := ⟨_, rfl⟩
        have hP : va_P (dC, dI) vwCl (MW cI cJ cZ R (I90, A107, B_85)) H := by rw [eA107]; exact hP
        have hD : va_D Aa (MW cI cJ cZ R (I90, A107, B_85)) := by rw [eA107]; exact hD
        refine lv_aload_n hx hb dX8_edge_108 rfl (lv_at hl 0 rfl) ?_
        refine va_get (D := (dC, dI)) (ci := 8) (v := .ref (R 4)) (C := RX8) (T := TX8) (N := 20) hx hb hts hinX8 hown hK hP 0 rfl rfl 4 (by decide) hf17 (fun _ h9 => h9) rfl dX8_edge_109 ?_
        refine lv_aload_n hx hb dX8_edge_112 rfl (lv_at hl 0 rfl) ?_
        refine va_get (D := (dC, dI)) (ci := 8) (v := .int (I90 2)) (C := RX8) (T := TX8) (N := 20) hx hb hts hinX8 hown hK hP 0 rfl rfl 2 (by decide) hf61 (fun _ h9 => h9) rfl dX8_edge_113 ?_
        refine lv_iload_n hx hb dX8_edge_116 rfl (lv_at hl 2 rfl) ?_
        have h117 : vp_in (I90 2) 40 := hin
        refine va_iast hx hb hK hP hD hS 2 0 rfl rfl h117 dX8_edge_117 (fun H locs hP hD hS => ?_)
        obtain ⟨A117, eA117⟩ : ∃ z : Nat → Nat → Int32, z = va_up A107 4 (upd (A107 4) (I90 2).toNatClampNeg b) := ⟨_, rfl⟩
        have hP : va_P (dC, dI) vwCl (MW cI cJ cZ R (I90, A117, B_85)) H := by rw [eA117]; exact hP
        have hD : va_D Aa (MW cI cJ cZ R (I90, A117, B_85)) := by rw [eA117]; exact hD
        refine lv_aload_n hx hb dX8_edge_118 rfl (lv_at hl 0 rfl) ?_
        refine va_get (D := (dC, dI)) (ci := 8) (v := .ref (R 5)) (C := RX8) (T := TX8) (N := 20) hx hb hts hinX8 hown hK hP 0 rfl rfl 5 (by decide) hf20 (fun _ h9 => h9) rfl dX8_edge_119 ?_
        refine lv_aload_n hx hb dX8_edge_122 rfl (lv_at hl 0 rfl) ?_
        refine va_get (D := (dC, dI)) (ci := 8) (v := .int (I90 2)) (C := RX8) (T := TX8) (N := 20) hx hb hts hinX8 hown hK hP 0 rfl rfl 2 (by decide) hf61 (fun _ h9 => h9) rfl dX8_edge_123 ?_
        refine lv_iload_n hx hb dX8_edge_126 rfl (lv_at hl 3 rfl) ?_
        have h127 : vp_in (I90 2) 40 := hin
        refine va_iast hx hb hK hP hD hS 3 0 rfl rfl h127 dX8_edge_127 (fun H locs hP hD hS => ?_)
        obtain ⟨A127, eA127⟩ : ∃ z : Nat → Nat → Int32, z = va_up A117 5 (upd (A117 5) (I90 2).toNatClampNeg w) := ⟨_, rfl⟩
        have hP : va_P (dC, dI) vwCl (MW cI cJ cZ R (I90, A127, B_85)) H := by rw [eA127]; exact hP
        have hD : va_D Aa (MW cI cJ cZ R (I90, A127, B_85)) := by rw [eA127]; exact hD
        refine lv_aload_n hx hb dX8_edge_128 rfl (lv_at hl 0 rfl) ?_
        refine lv_dup hx hb dX8_edge_129 rfl ?_
        refine va_get (D := (dC, dI)) (ci := 8) (v := .int (I90 2)) (C := RX8) (T := TX8) (N := 20) hx hb hts hinX8 hown hK hP 0 rfl rfl 2 (by decide) hf61 (fun _ h9 => h9) rfl dX8_edge_130 ?_
        refine lv_iconst (v := 1) hx hb dX8_edge_133 (by decide) ?_
        refine lv_iadd hx hb dX8_edge_134 ?_
        refine lv_topi (fun x134 ex134 => ?_)
        refine va_put (D := (dC, dI)) (ci := 8) (v := .int x134) (ty := .int) (C := RX8) (T := TX8) (N := 20) hx hb hts hinX8 tyX8 tyX8_ok nmX8 hown hK hP hD hS 0 rfl rfl 2 (by decide) hf61 (fun _ h9 => h9) rfl (by decide +kernel) rfl rfl (Nat.le_of_ble_eq_true rfl) dX8_edge_135 (fun H locs hP hD hS => ?_)
        obtain ⟨I135, eI135⟩ : ∃ z : Nat → Int32, z = va_up I90 2 x134 := ⟨_, rfl⟩
        have hP : va_P (dC, dI) vwCl (MW cI cJ cZ R (I135, A127, B_85)) H := by rw [eI135]; exact hP
        have hD : va_D Aa (MW cI cJ cZ R (I135, A127, B_85)) := by rw [eI135]; exact hD
        refine lv_aload_n hx hb dX8_edge_138 rfl (lv_at hl 0 rfl) ?_
        refine va_get (D := (dC, dI)) (ci := 8) (v := .int (I135 2)) (C := RX8) (T := TX8) (N := 20) hx hb hts hinX8 hown hK hP 0 rfl rfl 2 (by decide) hf61 (fun _ h9 => h9) rfl dX8_edge_139 ?_
        refine lv_iconst (v := 1) hx hb dX8_edge_142 (by decide) ?_
        refine lv_isub hx hb dX8_edge_143 ?_
        refine lv_topi (fun x143 ex143 => ?_)
        refine hret 144 ls _ _ x143 (I135, A127, B_85) dX8_edge_144 rfl ?_ hP hD hS
        try dsimp only
        refine ⟨fun h => absurd h h4.2.1, fun h hh => absurd hh h4.2.2.2, fun _ _ => ?_⟩
        refine ⟨by rw [eI135, up_ne (by decide), eI90, up_self, h4.1, h4.2.2.1]; rfl, by rw [ex143, eI135, up_self, ex134, h2]; exact (by rw [nI_1]; exact nI_pred ne), by show I135 2 = _; rw [eI135, up_self, ex134, h2]; exact nI_1 ne, fun k a1 a2 a3 => by show I135 k = _; rw [eI135, up_ne a2, eI90, up_ne a1]; exact hf.1 k a3,
          by show A127 3 = _; rw [eA127, up_ne (by decide), eA117, up_ne (by decide), eA107, up_self, hcl, show A_85 3 = A 3 from hf.2.1 3 (by decide) (by decide)], by show A127 4 = _; rw [eA127, up_ne (by decide), eA117, up_self, eA107, up_ne (by decide), hcl, show A_85 4 = A 4 from hf.2.1 4 (by decide) (by decide)],
          by show A127 5 = _; rw [eA127, up_self, eA117, up_ne (by decide), eA107, up_ne (by decide), hcl, show A_85 5 = A 5 from hf.2.1 5 (by decide) (by decide)], fun k a1 a2 a3 a4 a5 => by show A127 k = _; rw [eA127, up_ne a3, eA117, up_ne a2, eA107, up_ne a1]; exact hf.2.1 k a4 a5, hf.2.2⟩
      · -- 93 not
        rw [w90] at c93
        refine lv_iconst (v := 0) hx hb dX8_edge_96 (by decide) ?_
        refine hret 97 ls _ _ 0 (I90, A_85, B_85) dX8_edge_97 rfl ?_ hP hD hS
        try dsimp only
        refine ⟨fun h => ?_, fun h hh => ?_, fun h hh => ?_⟩
        · rcases h3 with h4 | h4 | h4
          · refine ⟨by rw [eI90, up_self, h4.1]; rfl, fQ0 _ eI90⟩
          · exact absurd h h4.2.1
          · exact absurd h h4.2.1
        · rcases h3 with h4 | h4 | h4
          · exact absurd h4.2.2 h
          · refine ⟨by rw [eI90, up_self, h4.1, h4.2.2.1]; rfl, fQ0 _ eI90⟩
          · exact absurd hh h4.2.2.2
        · rcases h3 with h4 | h4 | h4
          · exact absurd h4.2.2 h
          · exact absurd h4.2.2.2 hh
          · rw [h4.1, h4.2.2.1] at c93; exact absurd rfl c93
    refine lv_iconst (v := 0) hx hb dX8_edge_33 (by decide) ?_
    refine lv_istore (lv' := [(5, .int 0), (4, .int o), (0, .ref (R 0)), (1, .int a), (2, .int b), (3, .int w)]) hx hb dX8_edge_34 hl (by decide) rfl (fun ls hl => ?_)
    refine lv_iload hx hb dX8_edge_36 (lv_at hl 1 rfl) ?_
    refine lv_if_ne (tgt := 85) hx hb dX8_edge_38 (by decide) (fun c38 => ?_) (fun c38 => ?_)
    · -- 38 taken
      have hbad : o = 1 ∧ bE nv a b w := inv31.elim id (fun h => absurd h.1 c38)
      exact K85 0 I A B ls _ _  ⟨fJ.rf, Or.inl ⟨hbad.1, rfl, hbad.2⟩⟩ hP hD hS (lv_sub hl [2, 3, 4, 5, 1, 0] rfl)
    · -- 38 not
      have hok : o = 0 ∧ ¬ bE nv a b w := inv31.elim (fun h => by rw [h.1] at c38; exact absurd c38 (by decide)) id
      obtain ⟨ja, hja, eja, cja⟩ := vtx_of (a := a) g.2.1 (fun h => hok.2 (Or.inl h)) (fun h => hok.2 (Or.inr (Or.inl h)))
      obtain ⟨jb, hjb, ejb, cjb⟩ := vtx_of (a := b) g.2.1 (fun h => hok.2 (Or.inr (Or.inr (Or.inl h)))) (fun h => hok.2 (Or.inr (Or.inr (Or.inr (Or.inl h)))))
      refine lv_aload_n hx hb dX8_edge_41 rfl (lv_at hl 2 rfl) ?_
      refine ct_calli hD hS hA (va_runV (As := []) (rest := []) F ((k_X8_dimension l dC dI cI cJ cZ cII cJJ R I A B nv ne fr to wt g) _) (cwV 0 hts gX8_edge_X8_dimension rfl rfl rfl (by decide +kernel) ⟨(Nat.le_of_ble_eq_true rfl), (Nat.le_of_ble_eq_true rfl)⟩) (ct_preV 0 8 hK hN hP hD rfl rfl) rfl rfl hl.1 rfl (lv_room (Nat.le_of_ble_eq_true rfl)) dX8_edge_42 ⟨(Nat.le_of_ble_eq_true rfl), (Nat.le_of_ble_eq_true rfl)⟩) (fun r42 u42 H locs w42 hP hD hS => ?_)
      obtain ⟨I42, A42, B42⟩ := u42
      have gg := g.fj w42.2.2
      have hq := w42.2.1
      have hdd := jd_lt (fr := fr) (to := to) (s := fl ne) (k := ne)
      have g3 := g.2.2.1
      have g2 := g.2.1
      refine lv_istore (lv' := [(6, .int r42), (5, .int 0), (4, .int o), (0, .ref (R 0)), (1, .int a), (2, .int b), (3, .int w)]) hx hb dX8_edge_45 hl (by decide) rfl (fun ls hl => ?_)
      have K83 : ∀ (f : Int32) (ls : Array Slot) (H : Heap) (locs : List Loc), ((f = 1 ∧ fE ne (jRun fr to (fl ne) ne) a b) ∨ (f = 0 ∧ ¬ fE ne (jRun fr to (fl ne) ne) a b)) → va_P (dC, dI) vwCl (MW cI cJ cZ R (I42, A42, B42)) H → va_D Aa (MW cI cJ cZ R (I42, A42, B42)) → va_S Aa s.heap H locs → lv_has ls 7 [(0, .ref (R 0)), (1, .int a), (2, .int b), (3, .int w), (4, .int o)] → W p l e (ctR (3, 80)) s m #[.ref (R 0), .int a, .int b, .int w] below meth c H locs 0 0 Q (F0 m 83 ls [.int f]) := by
        intro f ls H locs inv83 hP hD hS hl
        refine lv_istore (lv' := [(5, .int f), (0, .ref (R 0)), (1, .int a), (2, .int b), (3, .int w), (4, .int o)]) hx hb dX8_edge_83 hl (by decide) rfl (fun ls hl => ?_)
        exact K85 f I42 A42 B42 ls _ _  ⟨w42.2.2, inv83.elim (fun h => Or.inr (Or.inl ⟨hok.1, hok.2, h.1, h.2⟩)) (fun h => Or.inr (Or.inr ⟨hok.1, hok.2, h.1, h.2⟩))⟩ hP hD hS (lv_sub hl [1, 2, 3, 4, 5, 0] rfl)
      refine lv_aload_n hx hb dX8_edge_47 rfl (lv_at hl 3 rfl) ?_
      refine va_get (D := (dC, dI)) (ci := 8) (v := .int (I42 2)) (C := RX8) (T := TX8) (N := 20) hx hb hts hinX8 hown hK hP 0 rfl rfl 2 (by decide) hf61 (fun _ h9 => h9) rfl dX8_edge_48 ?_
      refine lv_bipush (v := 40) hx hb dX8_edge_51 (by decide) ?_
      refine lv_icmp_eq (tgt := 78) hx hb dX8_edge_53 (by decide) (fun c53 => ?_) (fun c53 => ?_)
      · -- 53 taken
        rw [show I42 2 = nI ne from gg.2.2.2.2.1] at c53
        have c53 : ne = 40 := (nI_eq (by omega) (by omega)).mp c53
        refine lv_iconst (v := 1) hx hb dX8_edge_78 (by decide) ?_
        refine lv_goto (tgt := 83) hx hb dX8_edge_79 (by decide) ?_
        exact K83 1 ls _ _  (Or.inl ⟨rfl, Or.inl c53⟩) hP hD hS (lv_sub hl [3, 4, 5, 6, 2] rfl)
      · -- 53 not
        rw [show I42 2 = nI ne from gg.2.2.2.2.1] at c53
        have c53 : ¬ ne = 40 := fun h => c53 (by rw [h]; rfl)
        refine lv_iload hx hb dX8_edge_56 (lv_at hl 0 rfl) ?_
        refine lv_bipush (v := 14) hx hb dX8_edge_58 (by decide) ?_
        refine lv_icmp_ne (tgt := 82) hx hb dX8_edge_60 (by decide) (fun c60 => ?_) (fun c60 => ?_)
        · -- 60 taken
          rw [w42.1] at c60
          have c60 : ¬ (jRun fr to (fl ne) ne).2.2.1 = 14 := fun h => c60 (by rw [h]; rfl)
          refine lv_iconst (v := 0) hx hb dX8_edge_82 (by decide) ?_
          exact K83 0 ls _ _  (Or.inr ⟨rfl, fun h => h.elim c53 (fun h => c60 h.1)⟩) hP hD hS (lv_sub hl [3, 4, 5, 6, 2] rfl)
        · -- 60 not
          rw [w42.1] at c60
          have c60 : (jRun fr to (fl ne) ne).2.2.1 = 14 := (nI_eq (by omega) (by omega)).mp c60
          refine lv_aload_n hx hb dX8_edge_63 rfl (lv_at hl 3 rfl) ?_
          refine va_get (D := (dC, dI)) (ci := 8) (v := .ref (R 8)) (C := RX8) (T := TX8) (N := 20) hx hb hts hinX8 hown hK hP 0 rfl rfl 8 (by decide) hf27 (fun _ h9 => h9) rfl dX8_edge_64 ?_
          refine lv_iload_n hx hb dX8_edge_67 rfl (lv_at hl 4 rfl) ?_
          have h68 : vp_in a 16 := by rw [eja]; exact vp_in_nI (by omega) (by omega)
          refine va_iald hx hb hK hP 5 0 rfl rfl h68 dX8_edge_68 ?_
          refine lv_topi (fun x68 ex68 => ?_)
          have ex68 : x68 = A42 8 a.toNatClampNeg := ex68
          have ex68 : x68 = nI ((jRun fr to (fl ne) ne).1 ja) := by rw [ex68, cja]; exact (hq.1 ja hja).1
          refine lv_aload_n hx hb dX8_edge_69 rfl (lv_at hl 3 rfl) ?_
          refine va_get (D := (dC, dI)) (ci := 8) (v := .ref (R 8)) (C := RX8) (T := TX8) (N := 20) hx hb hts hinX8 hown hK hP 0 rfl rfl 8 (by decide) hf27 (fun _ h9 => h9) rfl dX8_edge_70 ?_
          refine lv_iload_n hx hb dX8_edge_73 rfl (lv_at hl 5 rfl) ?_
          have h74 : vp_in b 16 := by rw [ejb]; exact vp_in_nI (by omega) (by omega)
          refine va_iald hx hb hK hP 5 0 rfl rfl h74 dX8_edge_74 ?_
          refine lv_topi (fun x74 ex74 => ?_)
          have ex74 : x74 = A42 8 b.toNatClampNeg := ex74
          have ex74 : x74 = nI ((jRun fr to (fl ne) ne).1 jb) := by rw [ex74, cjb]; exact (hq.1 jb hjb).1
          have b1 := (hq.1 ja hja).2
          have b2 := (hq.1 jb hjb).2
          refine lv_icmp_ne (tgt := 82) hx hb dX8_edge_75 (by decide) (fun c75 => ?_) (fun c75 => ?_)
          · -- 75 taken
            rw [ex68, ex74, nI_eq (by omega) (by omega), ← cja, ← cjb] at c75
            refine lv_iconst (v := 0) hx hb dX8_edge_82 (by decide) ?_
            exact K83 0 ls _ _  (Or.inr ⟨rfl, fun h => h.elim c53 (fun h => c75 h.2)⟩) hP hD hS (lv_sub hl [3, 4, 5, 6, 2] rfl)
          · -- 75 not
            rw [ex68, ex74, nI_eq (by omega) (by omega), ← cja, ← cjb] at c75
            refine lv_iconst (v := 1) hx hb dX8_edge_78 (by decide) ?_
            refine lv_goto (tgt := 83) hx hb dX8_edge_79 (by decide) ?_
            exact K83 1 ls _ _  (Or.inl ⟨rfl, Or.inr ⟨c60, c75⟩⟩) hP hD hS (lv_sub hl [3, 4, 5, 6, 2] rfl)
  refine lv_aload_n hx hb dX8_edge_0 rfl (lv_at hl 0 rfl) ?_
  refine lv_iload_n hx hb dX8_edge_1 rfl (lv_at hl 1 rfl) ?_
  refine ct_calli hD hS hA (va_runV (As := [.int a]) (rest := []) F ((k_X8_isVertex l dC dI cI cJ cZ cII cJJ R I A B a) _) (cwV 1 hts gX8_edge_X8_isVertex rfl rfl rfl (by decide +kernel) ⟨(Nat.le_of_ble_eq_true rfl), (Nat.le_of_ble_eq_true rfl)⟩) (ct_preV 0 8 hK hN hP hD rfl rfl) rfl rfl hl.1 rfl (lv_room (Nat.le_of_ble_eq_true rfl)) dX8_edge_2 ⟨(Nat.le_of_ble_eq_true rfl), (Nat.le_of_ble_eq_true rfl)⟩) (fun r2 u2 H locs w2 hP hD hS => ?_)
  obtain ⟨w2, rfl⟩ := w2
  refine lv_if_eq (tgt := 26) hx hb dX8_edge_5 (by decide) (fun c5 => ?_) (fun c5 => ?_)
  · -- 5 taken
    rw [w2, g.2.2.2.1, isv] at c5
    refine lv_iconst (v := 1) hx hb dX8_edge_26 (by decide) ?_
    refine lv_goto (tgt := 31) hx hb dX8_edge_27 (by decide) ?_
    exact K31 1 ls _ _  (Or.inl ⟨rfl, by rcases c5 with h | h; exact Or.inl h; exact Or.inr (Or.inl h)⟩) hP hD hS (lv_sub hl [0, 1, 2, 3] rfl)
  · -- 5 not
    rw [w2, g.2.2.2.1, isv] at c5
    refine lv_aload_n hx hb dX8_edge_8 rfl (lv_at hl 0 rfl) ?_
    refine lv_iload_n hx hb dX8_edge_9 rfl (lv_at hl 2 rfl) ?_
    refine ct_calli hD hS hA (va_runV (As := [.int b]) (rest := []) F ((k_X8_isVertex l dC dI cI cJ cZ cII cJJ R I A B b) _) (cwV 1 hts gX8_edge_X8_isVertex rfl rfl rfl (by decide +kernel) ⟨(Nat.le_of_ble_eq_true rfl), (Nat.le_of_ble_eq_true rfl)⟩) (ct_preV 0 8 hK hN hP hD rfl rfl) rfl rfl hl.1 rfl (lv_room (Nat.le_of_ble_eq_true rfl)) dX8_edge_10 ⟨(Nat.le_of_ble_eq_true rfl), (Nat.le_of_ble_eq_true rfl)⟩) (fun r10 u10 H locs w10 hP hD hS => ?_)
    obtain ⟨w10, rfl⟩ := w10
    refine lv_if_eq (tgt := 26) hx hb dX8_edge_13 (by decide) (fun c13 => ?_) (fun c13 => ?_)
    · -- 13 taken
      rw [w10, g.2.2.2.1, isv] at c13
      refine lv_iconst (v := 1) hx hb dX8_edge_26 (by decide) ?_
      refine lv_goto (tgt := 31) hx hb dX8_edge_27 (by decide) ?_
      exact K31 1 ls _ _  (Or.inl ⟨rfl, by rcases c13 with h | h; exact Or.inr (Or.inr (Or.inl h)); exact Or.inr (Or.inr (Or.inr (Or.inl h)))⟩) hP hD hS (lv_sub hl [0, 1, 2, 3] rfl)
    · -- 13 not
      rw [w10, g.2.2.2.1, isv] at c13
      refine lv_iload_n hx hb dX8_edge_16 rfl (lv_at hl 3 rfl) ?_
      refine lv_if_lt (tgt := 26) hx hb dX8_edge_17 (by decide) (fun c17 => ?_) (fun c17 => ?_)
      · -- 17 taken
        refine lv_iconst (v := 1) hx hb dX8_edge_26 (by decide) ?_
        refine lv_goto (tgt := 31) hx hb dX8_edge_27 (by decide) ?_
        exact K31 1 ls _ _  (Or.inl ⟨rfl, Or.inr (Or.inr (Or.inr (Or.inr (Or.inl c17))))⟩) hP hD hS (lv_sub hl [0, 1, 2, 3] rfl)
      · -- 17 not
        refine lv_iload_n hx hb dX8_edge_20 rfl (lv_at hl 3 rfl) ?_
        refine lv_ldc (v := 1000000000) hx hb hown (hts (.constant RX8 85 1000000000) (by decide +kernel)) dX8_edge_21 ?_
        refine lv_icmp_le (tgt := 30) hx hb dX8_edge_23 (by decide) (fun c23 => ?_) (fun c23 => ?_)
        · -- 23 taken
          refine lv_iconst (v := 0) hx hb dX8_edge_30 (by decide) ?_
          exact K31 0 ls _ _  (Or.inr ⟨rfl, by rintro (h | h | h | h | h | h); exact c5 (Or.inl h); exact c5 (Or.inr h); exact c13 (Or.inl h); exact c13 (Or.inr h); exact c17 h; exact Int32.not_lt.mpr c23 h⟩) hP hD hS (lv_sub hl [0, 1, 2, 3] rfl)
        · -- 23 not
          refine lv_iconst (v := 1) hx hb dX8_edge_26 (by decide) ?_
          refine lv_goto (tgt := 31) hx hb dX8_edge_27 (by decide) ?_
          exact K31 1 ls _ _  (Or.inl ⟨rfl, Or.inr (Or.inr (Or.inr (Or.inr (Or.inr (Int32.not_le.mp c23)))))⟩) hP hD hS (lv_sub hl [0, 1, 2, 3] rfl)
