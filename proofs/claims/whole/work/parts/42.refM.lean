set_option maxHeartbeats 4000000 in
set_option maxRecDepth 100000 in
theorem k_X8_look (l : Launch) (dC : Nat → ClassId) (dI : Nat → Nat → Nat) (cI cJ cZ cII cJJ : ClassId) (R : Nat → Nat) (I : Nat → Int32) (A : Nat → Nat → Int32) (B : Nat → Nat → Int64) (nv ne : Nat) (fr to wt : Nat → Nat) (L : Nat) (li : Nat → Nat) (v : Int32) (g : gM nv ne fr to wt I A) (hL : lM L li I B) : ctI l (dC, dI) (tyL cI cJ cZ cII cJJ) (MW cI cJ cZ R) yX8_look wsX8_look (4, 110) [.ref (R 0), .int v] (I, A, B) (fun r u => (∀ k, k < 9 → v = nI k → u.1 0 = 0 ∧ fP I A B u ∧ r = nI (lkM nv ne fr to L li k)) ∧ ((v < 0 ∨ 8 < v) → u.1 0 = 1 ∧ fP I A B u)) := by
  refine ctI_intro (cc := cX8_look) (maxL := 2) (by decide) rfl (Nat.le_of_ble_eq_true rfl) ?_
  intro p e s m below meth c ls Aa Q F hK hN hP hD hS hA hl hret
  have hx := F.1
  have hb := F.2.1
  have hown : s.vm.findClass RX8 = some m.cls := F.2.2.2.1
  have hts := F.2.2.2.2
  have hinX8 : ∀ w ∈ wsX80, w ∈ wsX8_look := by decide +kernel
  have hf7 := hts (.fieldLink RX8 7 "CycleHouseModel" "n" "I") (by decide +kernel)
  have hf61 := hts (.fieldLink RX8 61 "CycleHouseModel" "m" "I") (by decide +kernel)
  have hf143 := hts (.fieldLink RX8 143 "CycleHouseModel" "listed" "I") (by decide +kernel)
  have hl : lv_has ls 2 [(0, .ref (R 0)), (1, .int v)] := hl
  refine lv_aload_n hx hb dX8_look_0 rfl (lv_at hl 0 rfl) ?_
  have K16 : ∀ (o : Int32) (ls : Array Slot) (H : Heap) (locs : List Loc), ((o = 1 ∧ (v < 0 ∨ 8 < v)) ∨ (o = 0 ∧ ∃ k, k < 9 ∧ v = nI k)) → va_P (dC, dI) vwCl (MW cI cJ cZ R (I, A, B)) H → va_D Aa (MW cI cJ cZ R (I, A, B)) → va_S Aa s.heap H locs → lv_has ls 2 [(0, .ref (R 0)), (1, .int v)] → W p l e (ctR (4, 110)) s m #[.ref (R 0), .int v] below meth c H locs 0 0 Q (F0 m 16 ls [.int o, .ref (R 0)]) := by
    intro o ls H locs inv16 hP hD hS hl
    refine lv_iconst (v := 0) hx hb dX8_look_16 (by decide) ?_
    refine ct_calli hD hS hA (va_runV (As := [.int o, .int 0]) (rest := []) F ((k_X8_throwing l dC dI cI cJ cZ cII cJJ R I A B o 0) _) (cwV 2 hts gX8_look_X8_throwing rfl rfl rfl (by decide +kernel) ⟨(Nat.le_of_ble_eq_true rfl), (Nat.le_of_ble_eq_true rfl)⟩) (ct_preV 0 8 hK hN hP hD rfl rfl) rfl rfl hl.1 rfl (lv_room (Nat.le_of_ble_eq_true rfl)) dX8_look_17 ⟨(Nat.le_of_ble_eq_true rfl), (Nat.le_of_ble_eq_true rfl)⟩) (fun r17 u17 H locs w17 hP hD hS => ?_)
    obtain ⟨w17, hu17⟩ := w17
    obtain ⟨I17, A17, B17⟩ := u17
    have eI17 := congrArg (fun z => z.1) hu17
    dsimp only at eI17
    have eA17 : A = A17 := (congrArg (fun z => z.2.1) hu17).symm
    subst eA17
    have eB17 : B = B17 := (congrArg (fun z => z.2.2) hu17).symm
    subst eB17
    clear hu17
    refine lv_if_eq (tgt := 25) hx hb dX8_look_20 (by decide) (fun c20 => ?_) (fun c20 => ?_)
    · -- 20 taken
      have hv : ∃ k, k < 9 ∧ v = nI k := inv16.elim (fun h => by rw [w17, h.1] at c20; exact absurd c20 (by decide)) (fun h => h.2)
      have eo : o = 0 := inv16.elim (fun h => by rw [w17, h.1] at c20; exact absurd c20 (by decide)) (fun h => h.1)
      obtain ⟨k, hk, ev⟩ := hv
      have eT : I17 = va_up I 0 0 := by rw [eI17, eo]; rfl
      have hfT : fP I A B (I17, A, B) := fP.rf0 eT
      have gT := g.fp hfT
      have e0 : I17 0 = 0 := by rw [eT]; exact up_self
      have hLT : lM L li I17 B := ⟨by rw [eT, up_ne (by decide)]; exact hL.1, hL.2⟩
      refine lv_iload_n hx hb dX8_look_25 rfl (lv_at hl 1 rfl) ?_
      have hsw26 : k = 0 ∨ k = 1 ∨ k = 2 ∨ k = 3 ∨ k = 4 ∨ k = 5 ∨ k = 6 ∨ k = 7 ∨ k = 8 := by omega
      rcases hsw26 with hsw | hsw | hsw | hsw | hsw | hsw | hsw | hsw | hsw
      · rw [hsw] at ev
        refine lv_tableIn (off := 46) (tgt := 72) hx hb dX8_look_26 (by rw [ev]; decide) (by rw [ev]; decide) (by rw [ev]; rfl) (by decide) ?_
        refine lv_aload_n hx hb dX8_look_72 rfl (lv_at hl 0 rfl) ?_
        refine va_get (D := (dC, dI)) (ci := 8) (v := .int (I17 1)) (C := RX8) (T := TX8) (N := 20) hx hb hts hinX8 hown hK hP 0 rfl rfl 1 (by decide) hf7 (fun _ h9 => h9) rfl dX8_look_73 ?_
        refine hret 76 ls _ _ (I17 1) (I17, A, B) dX8_look_76 rfl ?_ hP hD hS
        try dsimp only
        exact ⟨fun k2 h2 e2 => by have e3 : k2 = 0 := (nI_eq (by omega) (by omega)).mp (by rw [← e2, ev]); subst e3; exact ⟨e0, hfT, gT.2.2.2.1⟩, fun h => by rw [ev] at h; exact absurd h (by decide)⟩
      · rw [hsw] at ev
        refine lv_tableIn (off := 51) (tgt := 77) hx hb dX8_look_26 (by rw [ev]; decide) (by rw [ev]; decide) (by rw [ev]; rfl) (by decide) ?_
        refine lv_aload_n hx hb dX8_look_77 rfl (lv_at hl 0 rfl) ?_
        refine va_get (D := (dC, dI)) (ci := 8) (v := .int (I17 2)) (C := RX8) (T := TX8) (N := 20) hx hb hts hinX8 hown hK hP 0 rfl rfl 2 (by decide) hf61 (fun _ h9 => h9) rfl dX8_look_78 ?_
        refine hret 81 ls _ _ (I17 2) (I17, A, B) dX8_look_81 rfl ?_ hP hD hS
        try dsimp only
        exact ⟨fun k2 h2 e2 => by have e3 : k2 = 1 := (nI_eq (by omega) (by omega)).mp (by rw [← e2, ev]); subst e3; exact ⟨e0, hfT, gT.2.2.2.2.1⟩, fun h => by rw [ev] at h; exact absurd h (by decide)⟩
      · rw [hsw] at ev
        refine lv_tableIn (off := 56) (tgt := 82) hx hb dX8_look_26 (by rw [ev]; decide) (by rw [ev]; decide) (by rw [ev]; rfl) (by decide) ?_
        refine lv_aload_n hx hb dX8_look_82 rfl (lv_at hl 0 rfl) ?_
        refine ct_calli hD hS hA (va_runV (As := []) (rest := []) F ((k_X8_groups l dC dI cI cJ cZ cII cJJ R I17 A B nv ne fr to wt gT) _) (cwV 0 hts gX8_look_X8_groups rfl rfl rfl (by decide +kernel) ⟨(Nat.le_of_ble_eq_true rfl), (Nat.le_of_ble_eq_true rfl)⟩) (ct_preV 0 8 hK hN hP hD rfl rfl) rfl rfl hl.1 rfl (lv_room (Nat.le_of_ble_eq_true rfl)) dX8_look_83 ⟨(Nat.le_of_ble_eq_true rfl), (Nat.le_of_ble_eq_true rfl)⟩) (fun r83 u83 H locs w83 hP hD hS => ?_)
        obtain ⟨I83, A83, B83⟩ := u83
        refine hret 86 ls _ _ r83 (I83, A83, B83) dX8_look_86 rfl ?_ hP hD hS
        try dsimp only
        exact ⟨fun k2 h2 e2 => by have e3 : k2 = 2 := (nI_eq (by omega) (by omega)).mp (by rw [← e2, ev]); subst e3; exact ⟨(w83.2.2.1 0 (by decide)).trans e0, hfT.tr w83.2.2.fp, w83.1⟩, fun h => by rw [ev] at h; exact absurd h (by decide)⟩
      · rw [hsw] at ev
        refine lv_tableIn (off := 61) (tgt := 87) hx hb dX8_look_26 (by rw [ev]; decide) (by rw [ev]; decide) (by rw [ev]; rfl) (by decide) ?_
        refine lv_aload_n hx hb dX8_look_87 rfl (lv_at hl 0 rfl) ?_
        refine ct_calli hD hS hA (va_runV (As := []) (rest := []) F ((k_X8_dimension l dC dI cI cJ cZ cII cJJ R I17 A B nv ne fr to wt gT) _) (cwV 0 hts gX8_look_X8_dimension rfl rfl rfl (by decide +kernel) ⟨(Nat.le_of_ble_eq_true rfl), (Nat.le_of_ble_eq_true rfl)⟩) (ct_preV 0 8 hK hN hP hD rfl rfl) rfl rfl hl.1 rfl (lv_room (Nat.le_of_ble_eq_true rfl)) dX8_look_88 ⟨(Nat.le_of_ble_eq_true rfl), (Nat.le_of_ble_eq_true rfl)⟩) (fun r88 u88 H locs w88 hP hD hS => ?_)
        obtain ⟨I88, A88, B88⟩ := u88
        refine hret 91 ls _ _ r88 (I88, A88, B88) dX8_look_91 rfl ?_ hP hD hS
        try dsimp only
        exact ⟨fun k2 h2 e2 => by have e3 : k2 = 3 := (nI_eq (by omega) (by omega)).mp (by rw [← e2, ev]); subst e3; exact ⟨(w88.2.2.1 0 (by decide)).trans e0, hfT.tr w88.2.2.fp, w88.1⟩, fun h => by rw [ev] at h; exact absurd h (by decide)⟩
      · rw [hsw] at ev
        refine lv_tableIn (off := 66) (tgt := 92) hx hb dX8_look_26 (by rw [ev]; decide) (by rw [ev]; decide) (by rw [ev]; rfl) (by decide) ?_
        refine lv_aload_n hx hb dX8_look_92 rfl (lv_at hl 0 rfl) ?_
        refine ct_calli hD hS hA (va_runV (As := []) (rest := []) F ((k_X8_alone l dC dI cI cJ cZ cII cJJ R I17 A B nv ne fr to wt gT) _) (cwV 0 hts gX8_look_X8_alone rfl rfl rfl (by decide +kernel) ⟨(Nat.le_of_ble_eq_true rfl), (Nat.le_of_ble_eq_true rfl)⟩) (ct_preV 0 8 hK hN hP hD rfl rfl) rfl rfl hl.1 rfl (lv_room (Nat.le_of_ble_eq_true rfl)) dX8_look_93 ⟨(Nat.le_of_ble_eq_true rfl), (Nat.le_of_ble_eq_true rfl)⟩) (fun r93 u93 H locs w93 hP hD hS => ?_)
        obtain ⟨I93, A93, B93⟩ := u93
        refine hret 96 ls _ _ r93 (I93, A93, B93) dX8_look_96 rfl ?_ hP hD hS
        try dsimp only
        exact ⟨fun k2 h2 e2 => by have e3 : k2 = 4 := (nI_eq (by omega) (by omega)).mp (by rw [← e2, ev]); subst e3; exact ⟨(w93.2.1 0 (by decide)).trans e0, hfT.tr w93.2.fp, w93.1⟩, fun h => by rw [ev] at h; exact absurd h (by decide)⟩
      · rw [hsw] at ev
        refine lv_tableIn (off := 71) (tgt := 97) hx hb dX8_look_26 (by rw [ev]; decide) (by rw [ev]; decide) (by rw [ev]; rfl) (by decide) ?_
        refine lv_aload_n hx hb dX8_look_97 rfl (lv_at hl 0 rfl) ?_
        refine ct_calli hD hS hA (va_runV (As := []) (rest := []) F ((k_X8_areEven l dC dI cI cJ cZ cII cJJ R I17 A B nv ne fr to wt gT) _) (cwV 0 hts gX8_look_X8_areEven rfl rfl rfl (by decide +kernel) ⟨(Nat.le_of_ble_eq_true rfl), (Nat.le_of_ble_eq_true rfl)⟩) (ct_preV 0 8 hK hN hP hD rfl rfl) rfl rfl hl.1 rfl (lv_room (Nat.le_of_ble_eq_true rfl)) dX8_look_98 ⟨(Nat.le_of_ble_eq_true rfl), (Nat.le_of_ble_eq_true rfl)⟩) (fun r98 u98 H locs w98 hP hD hS => ?_)
        obtain ⟨I98, A98, B98⟩ := u98
        refine lv_if_eq (tgt := 108) hx hb dX8_look_101 (by decide) (fun c101 => ?_) (fun c101 => ?_)
        · -- 101 taken
          have c101 : ¬ evM fr to ne (dmA fr to ne) := fun h => by rw [w98.1, if_pos h] at c101; exact absurd c101 (by decide)
          refine lv_iconst (v := 0) hx hb dX8_look_108 (by decide) ?_
          refine hret 109 ls _ _ 0 (I98, A98, B98) dX8_look_109 rfl ?_ hP hD hS
          try dsimp only
          exact ⟨fun k2 h2 e2 => by have e3 : k2 = 5 := (nI_eq (by omega) (by omega)).mp (by rw [← e2, ev]); subst e3; exact ⟨(w98.2.1 0 (by decide)).trans e0, hfT.tr w98.2.fp, by show (0 : Int32) = nI (if evM fr to ne (dmA fr to ne) then 1 else 0); rw [if_neg c101]; rfl⟩, fun h => by rw [ev] at h; exact absurd h (by decide)⟩
        · -- 101 not
          have c101 : evM fr to ne (dmA fr to ne) := Classical.byContradiction (fun h => by rw [w98.1, if_neg h] at c101; exact c101 rfl)
          refine lv_iconst (v := 1) hx hb dX8_look_104 (by decide) ?_
          refine lv_goto (tgt := 109) hx hb dX8_look_105 (by decide) ?_
          refine hret 109 ls _ _ 1 (I98, A98, B98) dX8_look_109 rfl ?_ hP hD hS
          try dsimp only
          exact ⟨fun k2 h2 e2 => by have e3 : k2 = 5 := (nI_eq (by omega) (by omega)).mp (by rw [← e2, ev]); subst e3; exact ⟨(w98.2.1 0 (by decide)).trans e0, hfT.tr w98.2.fp, by show (1 : Int32) = nI (if evM fr to ne (dmA fr to ne) then 1 else 0); rw [if_pos c101]; rfl⟩, fun h => by rw [ev] at h; exact absurd h (by decide)⟩
      · rw [hsw] at ev
        refine lv_tableIn (off := 84) (tgt := 110) hx hb dX8_look_26 (by rw [ev]; decide) (by rw [ev]; decide) (by rw [ev]; rfl) (by decide) ?_
        refine lv_aload_n hx hb dX8_look_110 rfl (lv_at hl 0 rfl) ?_
        refine va_get (D := (dC, dI)) (ci := 8) (v := .int (I17 7)) (C := RX8) (T := TX8) (N := 20) hx hb hts hinX8 hown hK hP 0 rfl rfl 7 (by decide) hf143 (fun _ h9 => h9) rfl dX8_look_111 ?_
        refine hret 114 ls _ _ (I17 7) (I17, A, B) dX8_look_114 rfl ?_ hP hD hS
        try dsimp only
        exact ⟨fun k2 h2 e2 => by have e3 : k2 = 6 := (nI_eq (by omega) (by omega)).mp (by rw [← e2, ev]); subst e3; exact ⟨e0, hfT, hLT.1⟩, fun h => by rw [ev] at h; exact absurd h (by decide)⟩
      · rw [hsw] at ev
        refine lv_tableIn (off := 89) (tgt := 115) hx hb dX8_look_26 (by rw [ev]; decide) (by rw [ev]; decide) (by rw [ev]; rfl) (by decide) ?_
        refine lv_aload_n hx hb dX8_look_115 rfl (lv_at hl 0 rfl) ?_
        refine ct_calli hD hS hA (va_runV (As := []) (rest := []) F ((k_X8_rank l dC dI cI cJ cZ cII cJJ R I17 A B L li hLT) _) (cwV 0 hts gX8_look_X8_rank rfl rfl rfl (by decide +kernel) ⟨(Nat.le_of_ble_eq_true rfl), (Nat.le_of_ble_eq_true rfl)⟩) (ct_preV 0 8 hK hN hP hD rfl rfl) rfl rfl hl.1 rfl (lv_room (Nat.le_of_ble_eq_true rfl)) dX8_look_116 ⟨(Nat.le_of_ble_eq_true rfl), (Nat.le_of_ble_eq_true rfl)⟩) (fun r116 u116 H locs w116 hP hD hS => ?_)
        obtain ⟨I116, A116, B116⟩ := u116
        refine hret 119 ls _ _ r116 (I116, A116, B116) dX8_look_119 rfl ?_ hP hD hS
        try dsimp only
        exact ⟨fun k2 h2 e2 => by have e3 : k2 = 7 := (nI_eq (by omega) (by omega)).mp (by rw [← e2, ev]); subst e3; exact ⟨(w116.2.1 0 (by decide)).trans e0, hfT.tr (fP.of (fun k _ _ h => w116.2.1 k h) (fun k _ _ _ _ => by rw [show A116 = A from w116.2.2.1]) (fun k _ _ _ _ h _ => w116.2.2.2 k h)), w116.1⟩, fun h => by rw [ev] at h; exact absurd h (by decide)⟩
      · rw [hsw] at ev
        refine lv_tableOut (tgt := 120) hx hb dX8_look_26 (by rw [ev]; decide) (by decide) ?_
        refine lv_aload_n hx hb dX8_look_120 rfl (lv_at hl 0 rfl) ?_
        refine ct_calli hD hS hA (va_runV (As := []) (rest := []) F ((k_X8_parting l dC dI cI cJ cZ cII cJJ R I17 A B nv ne fr to wt gT) _) (cwV 0 hts gX8_look_X8_parting rfl rfl rfl (by decide +kernel) ⟨(Nat.le_of_ble_eq_true rfl), (Nat.le_of_ble_eq_true rfl)⟩) (ct_preV 0 8 hK hN hP hD rfl rfl) rfl rfl hl.1 rfl (lv_room (Nat.le_of_ble_eq_true rfl)) dX8_look_121 ⟨(Nat.le_of_ble_eq_true rfl), (Nat.le_of_ble_eq_true rfl)⟩) (fun r121 u121 H locs w121 hP hD hS => ?_)
        obtain ⟨I121, A121, B121⟩ := u121
        refine hret 124 ls _ _ r121 (I121, A121, B121) dX8_look_124 rfl ?_ hP hD hS
        try dsimp only
        exact ⟨fun k2 h2 e2 => by have e3 : k2 = 8 := (nI_eq (by omega) (by omega)).mp (by rw [← e2, ev]); subst e3; exact ⟨(w121.2.1 0 (by decide)).trans e0, hfT.tr w121.2.fp, w121.1⟩, fun h => by rw [ev] at h; exact absurd h (by decide)⟩
    · -- 20 not
      have hv : o = 1 ∧ (v < 0 ∨ 8 < v) := inv16.elim id (fun h => by rw [w17, h.1] at c20; exact absurd rfl c20)
      have eT : I17 = va_up I 0 1 := by rw [eI17, hv.1]; rfl
      refine lv_iconst (v := 0) hx hb dX8_look_23 (by decide) ?_
      refine hret 24 ls _ _ 0 (I17, A, B) dX8_look_24 rfl ?_ hP hD hS
      try dsimp only
      exact ⟨fun k hk he => by rw [he] at hv; exact hv.2.elim (fun h => absurd h (nI_pos (by omega))) (fun h => absurd ((nI_ltI (a := 8) (by omega) (by omega)).mp h) (by omega)), fun _ => ⟨by rw [eT]; exact up_self, fP.rf0 eT⟩⟩
  refine lv_iload_n hx hb dX8_look_1 rfl (lv_at hl 1 rfl) ?_
  refine lv_if_lt (tgt := 11) hx hb dX8_look_2 (by decide) (fun c2 => ?_) (fun c2 => ?_)
  · -- 2 taken
    refine lv_iconst (v := 1) hx hb dX8_look_11 (by decide) ?_
    refine lv_goto (tgt := 16) hx hb dX8_look_12 (by decide) ?_
    exact K16 1 ls _ _  (Or.inl ⟨rfl, Or.inl c2⟩) hP hD hS (lv_sub hl [0, 1] rfl)
  · -- 2 not
    refine lv_iload_n hx hb dX8_look_5 rfl (lv_at hl 1 rfl) ?_
    refine lv_bipush (v := 8) hx hb dX8_look_6 (by decide) ?_
    refine lv_icmp_le (tgt := 15) hx hb dX8_look_8 (by decide) (fun c8 => ?_) (fun c8 => ?_)
    · -- 8 taken
      refine lv_iconst (v := 0) hx hb dX8_look_15 (by decide) ?_
      exact K16 0 ls _ _  (Or.inr ⟨rfl, by obtain ⟨j, hj, ej⟩ := nI_of c2; exact ⟨j, by have := (nI_leI (b := 8) hj (by omega)).mp (by rw [← ej]; exact c8); omega, ej⟩⟩) hP hD hS (lv_sub hl [0, 1] rfl)
    · -- 8 not
      refine lv_iconst (v := 1) hx hb dX8_look_11 (by decide) ?_
      refine lv_goto (tgt := 16) hx hb dX8_look_12 (by decide) ?_
      exact K16 1 ls _ _  (Or.inl ⟨rfl, Or.inr (Int32.not_le.mp c8)⟩) hP hD hS (lv_sub hl [0, 1] rfl)
set_option maxHeartbeats 4000000 in
set_option maxRecDepth 100000 in
theorem k_X8_belongs (l : Launch) (dC : Nat → ClassId) (dI : Nat → Nat → Nat) (cI cJ cZ cII cJJ : ClassId) (R : Nat → Nat) (I : Nat → Int32) (A : Nat → Nat → Int32) (B : Nat → Nat → Int64) (nv ne : Nat) (fr to wt : Nat → Nat) (z : Nat) (g : gM nv ne fr to wt I A) (hd : dmA fr to ne ≤ 14) (hz : z < 2 ^ 64) : ctI l (dC, dI) (tyL cI cJ cZ cII cJJ) (MW cI cJ cZ R) yX8_belongs wsX8_belongs (4, 110) [.ref (R 0), .long (lN z)] (I, A, B) (fun r u => (z < 2 ^ ne → u.1 0 = 0 ∧ fP I A B u ∧ ((r = 1 ∧ z ≠ 0 ∧ evn fr to nv ne z ∧ ¬ spS (fun a => (1 ≤ a ∧ a < 2 ^ dmA fr to ne) ∧ wsum wt (elA fr to ne a) ne < wsum wt (elA fr to ne (nb (fun i => z.testBit (czA fr to ne i)) (dmA fr to ne))) ne) (nb (fun i => z.testBit (czA fr to ne i)) (dmA fr to ne))) ∨ (r = 0 ∧ ¬ (z ≠ 0 ∧ evn fr to nv ne z ∧ ¬ spS (fun a => (1 ≤ a ∧ a < 2 ^ dmA fr to ne) ∧ wsum wt (elA fr to ne a) ne < wsum wt (elA fr to ne (nb (fun i => z.testBit (czA fr to ne i)) (dmA fr to ne))) ne) (nb (fun i => z.testBit (czA fr to ne i)) (dmA fr to ne)))))) ∧ (¬ z < 2 ^ ne → u.1 0 = 1 ∧ fP I A B u)) := by
  refine ctI_intro (cc := cX8_belongs) (maxL := 7) (by decide) rfl (Nat.le_of_ble_eq_true rfl) ?_
  intro p e s m below meth c ls Aa Q F hK hN hP hD hS hA hl hret
  have hx := F.1
  have hb := F.2.1
  have hown : s.vm.findClass RX8 = some m.cls := F.2.2.2.1
  have hts := F.2.2.2.2
  have hinX8 : ∀ w ∈ wsX80, w ∈ wsX8_belongs := by decide +kernel
  have hf130 := hts (.fieldLink RX8 130 "CycleHouseModel" "rowed" "I") (by decide +kernel)
  have hf42 := hts (.fieldLink RX8 42 "CycleHouseModel" "weights" "[J") (by decide +kernel)
  have hl : lv_has ls 7 [(0, .ref (R 0)), (1, .long (lN z))] := hl
  refine lv_aload_n hx hb dX8_belongs_0 rfl (lv_at hl 0 rfl) ?_
  refine lv_aload_n hx hb dX8_belongs_1 rfl (lv_at hl 0 rfl) ?_
  refine lv_lload_n hx hb dX8_belongs_2 rfl (lv_at hl 1 rfl) ?_
  have K14 : ∀ (o : Int32) (ls : Array Slot) (H : Heap) (locs : List Loc), (o = (if z < 2 ^ ne then 0 else 1)) → va_P (dC, dI) vwCl (MW cI cJ cZ R (I, A, B)) H → va_D Aa (MW cI cJ cZ R (I, A, B)) → va_S Aa s.heap H locs → lv_has ls 7 [(0, .ref (R 0)), (1, .long (lN z))] → W p l e (ctR (4, 110)) s m #[.ref (R 0), .long (lN z)] below meth c H locs 0 0 Q (F0 m 14 ls [.int o, .ref (R 0)]) := by
    intro o ls H locs inv14 hP hD hS hl
    refine lv_iconst (v := 0) hx hb dX8_belongs_14 (by decide) ?_
    refine ct_calli hD hS hA (va_runV (As := [.int o, .int 0]) (rest := []) F ((k_X8_throwing l dC dI cI cJ cZ cII cJJ R I A B o 0) _) (cwV 2 hts gX8_belongs_X8_throwing rfl rfl rfl (by decide +kernel) ⟨(Nat.le_of_ble_eq_true rfl), (Nat.le_of_ble_eq_true rfl)⟩) (ct_preV 0 8 hK hN hP hD rfl rfl) rfl rfl hl.1 rfl (lv_room (Nat.le_of_ble_eq_true rfl)) dX8_belongs_15 ⟨(Nat.le_of_ble_eq_true rfl), (Nat.le_of_ble_eq_true rfl)⟩) (fun r15 u15 H locs w15 hP hD hS => ?_)
    obtain ⟨w15, hu15⟩ := w15
    obtain ⟨I15, A15, B15⟩ := u15
    have eI15 := congrArg (fun z => z.1) hu15
    dsimp only at eI15
    have eA15 : A = A15 := (congrArg (fun z => z.2.1) hu15).symm
    subst eA15
    have eB15 : B = B15 := (congrArg (fun z => z.2.2) hu15).symm
    subst eB15
    clear hu15
    refine lv_if_eq (tgt := 23) hx hb dX8_belongs_18 (by decide) (fun c18 => ?_) (fun c18 => ?_)
    · -- 18 taken
      rw [w15, inv14] at c18
      have hv : z < 2 ^ ne := Classical.byContradiction (fun h => by rw [if_neg h] at c18; exact absurd c18 (by decide))
      have hz2 : z < 2 ^ 62 := pw40 hv g.2.2.1
      have eT : I15 = va_up I 0 0 := by rw [eI15, inv14, if_pos hv]; rfl
      have hfT : fP I A B (I15, A, B) := fP.rf0 eT
      have gT := g.fp hfT
      have e0 : I15 0 = 0 := by rw [eT]; exact up_self
      refine lv_lload_n hx hb dX8_belongs_23 rfl (lv_at hl 1 rfl) ?_
      refine lv_lconst (v := 0) hx hb dX8_belongs_24 (by decide) ?_
      refine W.lcmp hx hb dX8_belongs_25 ?_
      refine lv_if_eq (tgt := 37) hx hb dX8_belongs_26 (by decide) (fun c26 => ?_) (fun c26 => ?_)
      · -- 26 taken
        rw [lg_cmp_eq] at c26
        have c26 : z = 0 := (pk_lEQ (b := 0) (by omega) (by omega)).mp c26
        refine lv_iconst (v := 0) hx hb dX8_belongs_37 (by decide) ?_
        refine hret 38 ls _ _ 0 (I15, A, B) dX8_belongs_38 rfl ?_ hP hD hS
        try dsimp only
        exact ⟨fun _ => ⟨e0, hfT, Or.inr ⟨rfl, fun h => h.1 c26⟩⟩, fun h => absurd hv h⟩
      · -- 26 not
        rw [lg_cmp_eq] at c26
        have c26 : z ≠ 0 := fun h => c26 (by rw [h]; rfl)
        refine lv_aload_n hx hb dX8_belongs_29 rfl (lv_at hl 0 rfl) ?_
        refine lv_lload_n hx hb dX8_belongs_30 rfl (lv_at hl 1 rfl) ?_
        refine ct_calli hD hS hA (va_runV (As := [.long (lN z)]) (rest := []) F ((k_X8_isEven l dC dI cI cJ cZ cII cJJ R I15 A B nv ne fr to wt z gT hz2) _) (cwV 1 hts gX8_belongs_X8_isEven rfl rfl rfl (by decide +kernel) ⟨(Nat.le_of_ble_eq_true rfl), (Nat.le_of_ble_eq_true rfl)⟩) (ct_preV 0 8 hK hN hP hD rfl rfl) rfl rfl hl.1 rfl (lv_room (Nat.le_of_ble_eq_true rfl)) dX8_belongs_31 ⟨(Nat.le_of_ble_eq_true rfl), (Nat.le_of_ble_eq_true rfl)⟩) (fun r31 u31 H locs w31 hP hD hS => ?_)
        obtain ⟨w31, rfl⟩ := w31
        refine lv_if_ne (tgt := 39) hx hb dX8_belongs_34 (by decide) (fun c34 => ?_) (fun c34 => ?_)
        · -- 34 taken
          have c34 : evn fr to nv ne z := Classical.byContradiction (fun h => by rw [w31, if_neg h] at c34; exact c34 rfl)
          refine lv_aload_n hx hb dX8_belongs_39 rfl (lv_at hl 0 rfl) ?_
          refine ct_calli hD hS hA (va_runV (As := []) (rest := []) F ((k_X8_spread l dC dI cI cJ cZ cII cJJ R I15 A B nv ne fr to wt gT hd) _) (cwV 0 hts gX8_belongs_X8_spread rfl rfl rfl (by decide +kernel) ⟨(Nat.le_of_ble_eq_true rfl), (Nat.le_of_ble_eq_true rfl)⟩) (ct_preV 0 8 hK hN hP hD rfl rfl) rfl rfl hl.1 rfl (lv_room (Nat.le_of_ble_eq_true rfl)) dX8_belongs_40 ⟨(Nat.le_of_ble_eq_true rfl), (Nat.le_of_ble_eq_true rfl)⟩) (fun r40 u40 H locs w40 hP hD hS => ?_)
          obtain ⟨I40, A40, B40⟩ := u40
          have er40 : r40 = nI (2 ^ dmA fr to ne) := w40.1
          subst er40
          have hpw := pw14 hd
          have hel := w40.2.1
          have gs := gT.fs w40.2.2.2
          have hnl := nb_lt (fun i => z.testBit (czA fr to ne i)) (dmA fr to ne)
          refine lv_istore_n (lv' := [(3, .int (nI (2 ^ dmA fr to ne))), (0, .ref (R 0)), (1, .long (lN z))]) hx hb dX8_belongs_43 rfl hl (by decide) rfl (fun ls hl => ?_)
          refine lv_aload_n hx hb dX8_belongs_44 rfl (lv_at hl 1 rfl) ?_
          refine lv_lload_n hx hb dX8_belongs_45 rfl (lv_at hl 2 rfl) ?_
          refine ct_calli hD hS hA (va_runV (As := [.long (lN z)]) (rest := []) F ((k_X8_numberOf l dC dI cI cJ cZ cII cJJ R I40 A40 B40 nv ne fr to wt z gs hz2 hd w40.2.2.1) _) (cwV 1 hts gX8_belongs_X8_numberOf rfl rfl rfl (by decide +kernel) ⟨(Nat.le_of_ble_eq_true rfl), (Nat.le_of_ble_eq_true rfl)⟩) (ct_preV 0 8 hK hN hP hD rfl rfl) rfl rfl hl.1 rfl (lv_room (Nat.le_of_ble_eq_true rfl)) dX8_belongs_46 ⟨(Nat.le_of_ble_eq_true rfl), (Nat.le_of_ble_eq_true rfl)⟩) (fun r46 u46 H locs w46 hP hD hS => ?_)
          obtain ⟨w46, rfl⟩ := w46
          have er46 : r46 = nI (nb (fun i => z.testBit (czA fr to ne i)) (dmA fr to ne)) := w46
          subst er46
          refine lv_istore (lv' := [(4, .int (nI (nb (fun i => z.testBit (czA fr to ne i)) (dmA fr to ne)))), (3, .int (nI (2 ^ dmA fr to ne))), (0, .ref (R 0)), (1, .long (lN z))]) hx hb dX8_belongs_49 hl (by decide) rfl (fun ls hl => ?_)
          refine lv_aload_n hx hb dX8_belongs_51 rfl (lv_at hl 2 rfl) ?_
          refine lv_iconst (v := 0) hx hb dX8_belongs_52 (by decide) ?_
          refine va_put (D := (dC, dI)) (ci := 8) (v := .int 0) (ty := .int) (C := RX8) (T := TX8) (N := 20) hx hb hts hinX8 tyX8 tyX8_ok nmX8 hown hK hP hD hS 0 rfl rfl 16 (by decide) hf130 (fun _ h9 => h9) rfl (by decide +kernel) rfl rfl (Nat.le_of_ble_eq_true rfl) dX8_belongs_53 (fun H locs hP hD hS => ?_)
          obtain ⟨I53, eI53⟩ : ∃ zz : Nat → Int32, zz = va_up I40 16 0 := ⟨_, rfl⟩
          have hP : va_P (dC, dI) vwCl (MW cI cJ cZ R (I53, A40, B40)) H := by rw [eI53]; exact hP
          have hD : va_D Aa (MW cI cJ cZ R (I53, A40, B40)) := by rw [eI53]; exact hD
          refine lv_iconst (v := 1) hx hb dX8_belongs_56 (by decide) ?_
          refine lv_istore (lv' := [(5, .int 1), (4, .int (nI (nb (fun i => z.testBit (czA fr to ne i)) (dmA fr to ne)))), (3, .int (nI (2 ^ dmA fr to ne))), (0, .ref (R 0)), (1, .long (lN z))]) hx hb dX8_belongs_57 hl (by decide) rfl (fun ls hl => ?_)
          have K59 : ∀ (kn : Nat) (i : Nat) (I_59 : Nat → Int32) (B_59 : Nat → Nat → Int64) (ls : Array Slot) (H : Heap) (locs : List Loc), 2 ^ (dmA fr to ne) - i < kn → (1 ≤ i ∧ i ≤ 2 ^ dmA fr to ne ∧ (∃ rd rows, rR 14 rd rows I_59 B_59 ∧ rowsS rd rows (fun a => (1 ≤ a ∧ a < i) ∧ wsum wt (elA fr to ne a) ne < wsum wt (elA fr to ne (nb (fun i => z.testBit (czA fr to ne i)) (dmA fr to ne))) ne)) ∧ (∀ k, k ≠ 16 → I_59 k = I40 k) ∧ ∀ k, k ≠ 15 → B_59 k = B40 k) → va_P (dC, dI) vwCl (MW cI cJ cZ R (I_59, A40, B_59)) H → va_D Aa (MW cI cJ cZ R (I_59, A40, B_59)) → va_S Aa s.heap H locs → lv_has ls 7 [(0, .ref (R 0)), (1, .long (lN z)), (3, .int (nI (2 ^ dmA fr to ne))), (4, .int (nI (nb (fun i => z.testBit (czA fr to ne i)) (dmA fr to ne)))), (5, .int (nI i))] → W p l e (ctR (4, 110)) s m #[.ref (R 0), .long (lN z)] below meth c H locs 0 0 Q (F0 m 59 ls []) := by
            intro kn
            induction kn with
            | zero => intro i I_59 B_59 ls H locs hmu; exact absurd hmu (Nat.not_lt_zero _)
            | succ kn ih59 =>
              intro i I_59 B_59 ls H locs mu59 inv59 hP hD hS hl
              obtain ⟨h1, hi, ⟨rd, rows, hr, hs⟩, hI, hB⟩ := inv59
              have hk : rd ≤ 14 := rowsOK_le hs.1 (fun i hi => (hr.2 i hi).2)
              refine lv_iload hx hb dX8_belongs_59 (lv_at hl 4 rfl) ?_
              refine lv_iload_n hx hb dX8_belongs_61 rfl (lv_at hl 2 rfl) ?_
              refine lv_icmp_ge (tgt := 101) hx hb dX8_belongs_62 (by decide) (fun c62 => ?_) (fun c62 => ?_)
              · -- 62 taken
                rw [nI_leI (by omega) (by omega)] at c62
                have hge : i = 2 ^ dmA fr to ne := by omega
                rw [hge] at hs
                have n14 : nb (fun i => z.testBit (czA fr to ne i)) (dmA fr to ne) < 2 ^ 14 := by omega
                have e0f : I_59 0 = 0 := (hI 0 (by decide)).trans ((w40.2.2.2.1 0 (by decide)).trans e0)
                have hff : fP I A B (I_59, A40, B_59) := hfT.tr (w40.2.2.2.fp.tr (fP.of (fun k _ _ h => hI k h) (fun _ _ _ _ _ => rfl) (fun k _ _ _ _ h _ => hB k h)))
                refine lv_aload_n hx hb dX8_belongs_101 rfl (lv_at hl 0 rfl) ?_
                refine lv_iload hx hb dX8_belongs_102 (lv_at hl 3 rfl) ?_
                refine lv_i2l hx hb dX8_belongs_104 rfl ?_
                refine lv_topl (fun x104 ex104 => ?_)
                have ex104 : x104 = lN (nb (fun i => z.testBit (czA fr to ne i)) (dmA fr to ne)) := by rw [ex104]; exact nm_il (by omega)
                subst ex104
                refine ct_calll hD hS hA (va_runV (As := [.long (lN (nb (fun i => z.testBit (czA fr to ne i)) (dmA fr to ne)))]) (rest := []) F ((k_X8_rest l dC dI cI cJ cZ cII cJJ R I_59 A40 B_59 14 rd rows (nb (fun i => z.testBit (czA fr to ne i)) (dmA fr to ne)) (by omega) hr (by omega) n14) _) (cwV 1 hts gX8_belongs_X8_rest rfl rfl rfl (by decide +kernel) ⟨(Nat.le_of_ble_eq_true rfl), (Nat.le_of_ble_eq_true rfl)⟩) (ct_preV 0 8 hK hN hP hD rfl rfl) rfl rfl hl.1 rfl (lv_room (Nat.le_of_ble_eq_true rfl)) dX8_belongs_105 ⟨(Nat.le_of_ble_eq_true rfl), (Nat.le_of_ble_eq_true rfl)⟩) (fun r105 u105 H locs w105 hP hD hS => ?_)
                obtain ⟨w105, rfl⟩ := w105
                refine lv_lconst (v := 0) hx hb dX8_belongs_108 (by decide) ?_
                refine W.lcmp hx hb dX8_belongs_109 ?_
                refine lv_if_eq (tgt := 117) hx hb dX8_belongs_110 (by decide) (fun c110 => ?_) (fun c110 => ?_)
                · -- 110 taken
                  rw [lg_cmp_eq] at c110
                  rw [w105] at c110
                  have c110 : spS (fun a => (1 ≤ a ∧ a < 2 ^ dmA fr to ne) ∧ wsum wt (elA fr to ne a) ne < wsum wt (elA fr to ne (nb (fun i => z.testBit (czA fr to ne i)) (dmA fr to ne))) ne) (nb (fun i => z.testBit (czA fr to ne i)) (dmA fr to ne)) := (hs.rest _).mp ((pk_lEQ (b := 0) (pwb (rsn_lt n14 rd (fun j hj => (hr.2 j hj).2)) (by omega)) (by decide)).mp c110)
                  refine lv_iconst (v := 0) hx hb dX8_belongs_117 (by decide) ?_
                  refine hret 118 ls _ _ 0 (I_59, A40, B_59) dX8_belongs_118 rfl ?_ hP hD hS
                  try dsimp only
                  exact ⟨fun _ => ⟨e0f, hff, Or.inr ⟨rfl, fun h => h.2.2 c110⟩⟩, fun h => absurd hv h⟩
                · -- 110 not
                  rw [lg_cmp_eq] at c110
                  have c110 : ¬ spS (fun a => (1 ≤ a ∧ a < 2 ^ dmA fr to ne) ∧ wsum wt (elA fr to ne a) ne < wsum wt (elA fr to ne (nb (fun i => z.testBit (czA fr to ne i)) (dmA fr to ne))) ne) (nb (fun i => z.testBit (czA fr to ne i)) (dmA fr to ne)) := fun h => c110 (by rw [w105, (hs.rest _).mpr h]; rfl)
                  refine lv_iconst (v := 1) hx hb dX8_belongs_113 (by decide) ?_
                  refine lv_goto (tgt := 118) hx hb dX8_belongs_114 (by decide) ?_
                  refine hret 118 ls _ _ 1 (I_59, A40, B_59) dX8_belongs_118 rfl ?_ hP hD hS
                  try dsimp only
                  exact ⟨fun _ => ⟨e0f, hff, Or.inl ⟨rfl, c26, c34, c110⟩⟩, fun h => absurd hv h⟩
              · -- 62 not
                rw [nI_leI (by omega) (by omega)] at c62
                have icl : (nI i).toNatClampNeg = i := nI_clamp (by omega)
                have iin : vp_in (nI i) 16384 := vp_in_nI (by omega) (by omega)
                have ncl : (nI (nb (fun i => z.testBit (czA fr to ne i)) (dmA fr to ne))).toNatClampNeg = nb (fun i => z.testBit (czA fr to ne i)) (dmA fr to ne) := nI_clamp (by omega)
                have i14 : i < 2 ^ 14 := by omega
                have hB14 : B_59 14 = B40 14 := hB 14 (by decide)
                refine lv_aload_n hx hb dX8_belongs_65 rfl (lv_at hl 0 rfl) ?_
                refine va_get (D := (dC, dI)) (ci := 8) (v := .ref (R 14)) (C := RX8) (T := TX8) (N := 20) hx hb hts hinX8 hown hK hP 0 rfl rfl 14 (by decide) hf42 (fun _ h9 => h9) rfl dX8_belongs_66 ?_
                refine lv_iload hx hb dX8_belongs_69 (lv_at hl 4 rfl) ?_
                have h71 : vp_in (nI i) 16384 := iin
                refine va_lald hx hb hK hP 10 1 rfl rfl h71 dX8_belongs_71 ?_
                refine lv_topl (fun x71 ex71 => ?_)
                have ex71 : x71 = B_59 14 (nI i).toNatClampNeg := ex71
                have ex71 : x71 = lN (wsum wt (elA fr to ne i) ne) := by rw [ex71, icl, hB14]; exact (hel i (by omega)).2
                refine lv_aload_n hx hb dX8_belongs_72 rfl (lv_at hl 0 rfl) ?_
                refine va_get (D := (dC, dI)) (ci := 8) (v := .ref (R 14)) (C := RX8) (T := TX8) (N := 20) hx hb hts hinX8 hown hK hP 0 rfl rfl 14 (by decide) hf42 (fun _ h9 => h9) rfl dX8_belongs_73 ?_
                refine lv_iload hx hb dX8_belongs_76 (lv_at hl 3 rfl) ?_
                have h78 : vp_in (nI (nb (fun i => z.testBit (czA fr to ne i)) (dmA fr to ne))) 16384 := vp_in_nI (by omega) (by omega)
                refine va_lald hx hb hK hP 10 1 rfl rfl h78 dX8_belongs_78 ?_
                refine lv_topl (fun x78 ex78 => ?_)
                have ex78 : x78 = B_59 14 (nI (nb (fun i => z.testBit (czA fr to ne i)) (dmA fr to ne))).toNatClampNeg := ex78
                have ex78 : x78 = lN (wsum wt (elA fr to ne (nb (fun i => z.testBit (czA fr to ne i)) (dmA fr to ne))) ne) := by rw [ex78, ncl, hB14]; exact (hel _ hnl).2
                refine W.lcmp hx hb dX8_belongs_79 ?_
                refine lv_if_lt (tgt := 86) hx hb dX8_belongs_80 (by decide) (fun c80 => ?_) (fun c80 => ?_)
                · -- 80 taken
                  rw [lg_cmp_lt] at c80
                  rw [ex71, ex78, pk_lLT (Nat.lt_trans (g.wl _) (by decide)) (Nat.lt_trans (g.wl _) (by decide))] at c80
                  refine lv_aload_n hx hb dX8_belongs_86 rfl (lv_at hl 0 rfl) ?_
                  refine lv_iload hx hb dX8_belongs_87 (lv_at hl 4 rfl) ?_
                  refine lv_i2l hx hb dX8_belongs_89 rfl ?_
                  refine lv_topl (fun x89 ex89 => ?_)
                  have ex89 : x89 = lN i := by rw [ex89]; exact nm_il (by omega)
                  subst ex89
                  refine ct_calli hD hS hA (va_runV (As := [.long (lN i)]) (rest := []) F ((k_X8_take l dC dI cI cJ cZ cII cJJ R I_59 A40 B_59 14 rd rows (fun a => (1 ≤ a ∧ a < i) ∧ wsum wt (elA fr to ne a) ne < wsum wt (elA fr to ne (nb (fun i => z.testBit (czA fr to ne i)) (dmA fr to ne))) ne) i (by omega) hr hs i14) _) (cwV 1 hts gX8_belongs_X8_take rfl rfl rfl (by decide +kernel) ⟨(Nat.le_of_ble_eq_true rfl), (Nat.le_of_ble_eq_true rfl)⟩) (ct_preV 0 8 hK hN hP hD rfl rfl) rfl rfl hl.1 rfl (lv_room (Nat.le_of_ble_eq_true rfl)) dX8_belongs_90 ⟨(Nat.le_of_ble_eq_true rfl), (Nat.le_of_ble_eq_true rfl)⟩) (fun r90 u90 H locs w90 hP hD hS => ?_)
                  obtain ⟨I90, A90, B90⟩ := u90
                  obtain ⟨rd2, rows2, t1, t2, t3, t4, t5, t6⟩ := w90
                  have t5 : A40 = A90 := t5.symm
                  subst t5
                  refine lv_istore (lv' := [(6, .int r90), (0, .ref (R 0)), (1, .long (lN z)), (3, .int (nI (2 ^ dmA fr to ne))), (4, .int (nI (nb (fun i => z.testBit (czA fr to ne i)) (dmA fr to ne)))), (5, .int (nI i))]) hx hb dX8_belongs_93 hl (by decide) rfl (fun ls hl => ?_)
                  obtain ⟨x95, ex95⟩ : ∃ zz : Int32, zz = nI i + (1) := ⟨_, rfl⟩
                  refine lv_iinc (v := x95) (lv' := [(5, .int x95), (6, .int r90), (0, .ref (R 0)), (1, .long (lN z)), (3, .int (nI (2 ^ dmA fr to ne))), (4, .int (nI (nb (fun i => z.testBit (czA fr to ne i)) (dmA fr to ne))))]) hx hb dX8_belongs_95 hl (k := 5) rfl (by rw [ex95]; rfl) (by decide) rfl (fun ls hl => ?_)
                  have ex95 : x95 = nI (i + 1) := by rw [ex95]; exact nI_1 i
                  subst ex95
                  refine lv_goto (tgt := 59) hx hb dX8_belongs_98 (by decide) ?_
                  exact ih59 (i + 1) I90 B90 ls _ _ (by omega) ⟨by omega, by omega, ⟨rd2, rows2, t1, t2.cong (fun a => ⟨fun h => h.elim (fun h => ⟨⟨h.1.1, by have := h.1.2; omega⟩, h.2⟩) (fun h => by rw [h]; exact ⟨⟨h1, by omega⟩, c80⟩), fun h => by by_cases e : a = i; exact Or.inr e; exact Or.inl ⟨⟨h.1.1, by have := h.1.2; omega⟩, h.2⟩⟩)⟩, fun k hk => (t4 k hk).trans (hI k hk), fun k hk => (t6 k hk).trans (hB k hk)⟩ hP hD hS (lv_sub hl [2, 3, 4, 5, 0] rfl)
                · -- 80 not
                  rw [lg_cmp_lt] at c80
                  rw [ex71, ex78, pk_lLT (Nat.lt_trans (g.wl _) (by decide)) (Nat.lt_trans (g.wl _) (by decide))] at c80
                  refine lv_goto (tgt := 95) hx hb dX8_belongs_83 (by decide) ?_
                  obtain ⟨x95, ex95⟩ : ∃ zz : Int32, zz = nI i + (1) := ⟨_, rfl⟩
                  refine lv_iinc (v := x95) (lv' := [(5, .int x95), (0, .ref (R 0)), (1, .long (lN z)), (3, .int (nI (2 ^ dmA fr to ne))), (4, .int (nI (nb (fun i => z.testBit (czA fr to ne i)) (dmA fr to ne))))]) hx hb dX8_belongs_95 hl (k := 4) rfl (by rw [ex95]; rfl) (by decide) rfl (fun ls hl => ?_)
                  have ex95 : x95 = nI (i + 1) := by rw [ex95]; exact nI_1 i
                  subst ex95
                  refine lv_goto (tgt := 59) hx hb dX8_belongs_98 (by decide) ?_
                  exact ih59 (i + 1) I_59 B_59 ls _ _ (by omega) ⟨by omega, by omega, ⟨rd, rows, hr, hs.cong (fun a => ⟨fun h => ⟨⟨h.1.1, by have := h.1.2; omega⟩, h.2⟩, fun h => ⟨⟨h.1.1, by have := h.1.2; have h3 : a ≠ i := (fun e => c80 (by have h4 := h.2; rw [e] at h4; exact h4)); omega⟩, h.2⟩⟩)⟩, hI, hB⟩ hP hD hS (lv_sub hl [1, 2, 3, 4, 0] rfl)
          exact K59 _ 1 I53 B40 ls _ _ (Nat.lt_succ_self _) ⟨Nat.le_refl 1, Nat.two_pow_pos _, ⟨0, fun _ => 0, ⟨by rw [eI53, up_self]; rfl, fun k h => absurd h (Nat.not_lt_zero _)⟩, rowsS_0 _ (fun a h => by have := h.1; omega)⟩, fun k hk => by rw [eI53, up_ne hk], fun _ _ => rfl⟩ hP hD hS (lv_sub hl [3, 4, 2, 1, 0] rfl)
        · -- 34 not
          have c34 : ¬ evn fr to nv ne z := fun h => by rw [w31, if_pos h] at c34; exact absurd c34 (by decide)
          refine lv_iconst (v := 0) hx hb dX8_belongs_37 (by decide) ?_
          refine hret 38 ls _ _ 0 (I15, A, B) dX8_belongs_38 rfl ?_ hP hD hS
          try dsimp only
          exact ⟨fun _ => ⟨e0, hfT, Or.inr ⟨rfl, fun h => c34 h.2.1⟩⟩, fun h => absurd hv h⟩
    · -- 18 not
      rw [w15, inv14] at c18
      have hv : ¬ z < 2 ^ ne := fun h => by rw [if_pos h] at c18; exact c18 rfl
      have eT : I15 = va_up I 0 1 := by rw [eI15, inv14, if_neg hv]; rfl
      refine lv_iconst (v := 0) hx hb dX8_belongs_21 (by decide) ?_
      refine hret 22 ls _ _ 0 (I15, A, B) dX8_belongs_22 rfl ?_ hP hD hS
      try dsimp only
      exact ⟨fun h => absurd h hv, fun _ => ⟨by rw [eT]; exact up_self, fP.rf0 eT⟩⟩
  refine ct_calli hD hS hA (va_runV (As := [.long (lN z)]) (rest := [.ref (R 0)]) F ((k_X8_isSet l dC dI cI cJ cZ cII cJJ R I A B (lN z)) _) (cwV 1 hts gX8_belongs_X8_isSet rfl rfl rfl (by decide +kernel) ⟨(Nat.le_of_ble_eq_true rfl), (Nat.le_of_ble_eq_true rfl)⟩) (ct_preV 0 8 hK hN hP hD rfl rfl) rfl rfl hl.1 rfl (lv_room (Nat.le_of_ble_eq_true rfl)) dX8_belongs_3 ⟨(Nat.le_of_ble_eq_true rfl), (Nat.le_of_ble_eq_true rfl)⟩) (fun r3 u3 H locs w3 hP hD hS => ?_)
  obtain ⟨w3, rfl⟩ := w3
  refine lv_if_ne (tgt := 13) hx hb dX8_belongs_6 (by decide) (fun c6 => ?_) (fun c6 => ?_)
  · -- 6 taken
    rw [w3, g.2.2.2.2.1] at c6
    have c6 : z < 2 ^ ne := (nm_set hz g.2.2.1).mp (Classical.byContradiction (fun h => by rw [if_neg h] at c6; exact c6 rfl))
    refine lv_iconst (v := 0) hx hb dX8_belongs_13 (by decide) ?_
    exact K14 0 ls _ _  (by rw [if_pos c6]) hP hD hS (lv_sub hl [0, 1] rfl)
  · -- 6 not
    rw [w3, g.2.2.2.2.1] at c6
    have c6 : ¬ z < 2 ^ ne := fun h => by rw [if_pos ((nm_set hz g.2.2.1).mpr h)] at c6; exact absurd c6 (by decide)
    refine lv_iconst (v := 1) hx hb dX8_belongs_9 (by decide) ?_
    refine lv_goto (tgt := 14) hx hb dX8_belongs_10 (by decide) ?_
    exact K14 1 ls _ _  (by rw [if_neg c6]) hP hD hS (lv_sub hl [0, 1] rfl)
set_option maxHeartbeats 4000000 in
set_option maxRecDepth 100000 in
theorem k_X8_basis (l : Launch) (dC : Nat → ClassId) (dI : Nat → Nat → Nat) (cI cJ cZ cII cJJ : ClassId) (R : Nat → Nat) (I : Nat → Int32) (A : Nat → Nat → Int32) (B : Nat → Nat → Int64) (nv ne : Nat) (fr to wt : Nat → Nat) (ib : Int32) (g : gM nv ne fr to wt I A) (hd : dmA fr to ne ≤ 14) : ctL l (dC, dI) (tyL cI cJ cZ cII cJJ) (MW cI cJ cZ R) yX8_basis wsX8_basis (4, 110) [.ref (R 0), .int ib] (I, A, B) (fun r u => (∀ i, i < dmA fr to ne → ib = nI i → u.1 0 = 0 ∧ fP I A B u ∧ ∃ pk, grd (fun c => wsum wt (elA fr to ne c) ne) (2 ^ dmA fr to ne) pk (i + 1) ∧ r = lN ((fun c => wsum wt (elA fr to ne c) ne) (pk i))) ∧ ((ib < 0 ∨ nI (dmA fr to ne) ≤ ib) → u.1 0 = 1 ∧ fP I A B u)) := by
  refine ctL_intro (cc := cX8_basis) (maxL := 9) (by decide) rfl (Nat.le_of_ble_eq_true rfl) ?_
  intro p e s m below meth c ls Aa Q F hK hN hP hD hS hA hl hret
  have hx := F.1
  have hb := F.2.1
  have hown : s.vm.findClass RX8 = some m.cls := F.2.2.2.1
  have hts := F.2.2.2.2
  have hinX8 : ∀ w ∈ wsX80, w ∈ wsX8_basis := by decide +kernel
  have hf130 := hts (.fieldLink RX8 130 "CycleHouseModel" "rowed" "I") (by decide +kernel)
  have hf42 := hts (.fieldLink RX8 42 "CycleHouseModel" "weights" "[J") (by decide +kernel)
  have hl : lv_has ls 9 [(0, .ref (R 0)), (1, .int ib)] := hl
  refine lv_aload_n hx hb dX8_basis_0 rfl (lv_at hl 0 rfl) ?_
  refine ct_calli hD hS hA (va_runV (As := []) (rest := []) F ((k_X8_dimension l dC dI cI cJ cZ cII cJJ R I A B nv ne fr to wt g) _) (cwV 0 hts gX8_basis_X8_dimension rfl rfl rfl (by decide +kernel) ⟨(Nat.le_of_ble_eq_true rfl), (Nat.le_of_ble_eq_true rfl)⟩) (ct_preV 0 8 hK hN hP hD rfl rfl) rfl rfl hl.1 rfl (lv_room (Nat.le_of_ble_eq_true rfl)) dX8_basis_1 ⟨(Nat.le_of_ble_eq_true rfl), (Nat.le_of_ble_eq_true rfl)⟩) (fun r1 u1 H locs w1 hP hD hS => ?_)
  obtain ⟨I1, A1, B1⟩ := u1
  have er1 : r1 = nI (dmA fr to ne) := w1.1
  subst er1
  have g3 := g.2.2.1
  have g2 := g.2.1
  have gg := g.fj w1.2.2
  refine lv_istore_n (lv' := [(2, .int (nI (dmA fr to ne))), (0, .ref (R 0)), (1, .int ib)]) hx hb dX8_basis_4 rfl hl (by decide) rfl (fun ls hl => ?_)
  have K20 : ∀ (o : Int32) (ls : Array Slot) (H : Heap) (locs : List Loc), ((o = 1 ∧ (ib < 0 ∨ nI (dmA fr to ne) ≤ ib)) ∨ (o = 0 ∧ ∃ i, i < dmA fr to ne ∧ ib = nI i)) → va_P (dC, dI) vwCl (MW cI cJ cZ R (I1, A1, B1)) H → va_D Aa (MW cI cJ cZ R (I1, A1, B1)) → va_S Aa s.heap H locs → lv_has ls 9 [(0, .ref (R 0)), (1, .int ib), (2, .int (nI (dmA fr to ne)))] → W p l e (ctR (4, 110)) s m #[.ref (R 0), .int ib] below meth c H locs 0 0 Q (F0 m 20 ls [.int o, .ref (R 0)]) := by
    intro o ls H locs inv20 hP hD hS hl
    refine lv_iconst (v := 0) hx hb dX8_basis_20 (by decide) ?_
    refine ct_calli hD hS hA (va_runV (As := [.int o, .int 0]) (rest := []) F ((k_X8_throwing l dC dI cI cJ cZ cII cJJ R I1 A1 B1 o 0) _) (cwV 2 hts gX8_basis_X8_throwing rfl rfl rfl (by decide +kernel) ⟨(Nat.le_of_ble_eq_true rfl), (Nat.le_of_ble_eq_true rfl)⟩) (ct_preV 0 8 hK hN hP hD rfl rfl) rfl rfl hl.1 rfl (lv_room (Nat.le_of_ble_eq_true rfl)) dX8_basis_21 ⟨(Nat.le_of_ble_eq_true rfl), (Nat.le_of_ble_eq_true rfl)⟩) (fun r21 u21 H locs w21 hP hD hS => ?_)
    obtain ⟨w21, hu21⟩ := w21
    obtain ⟨I21, A21, B21⟩ := u21
    have eI21 := congrArg (fun z => z.1) hu21
    dsimp only at eI21
    have eA21 : A1 = A21 := (congrArg (fun z => z.2.1) hu21).symm
    subst eA21
    have eB21 : B1 = B21 := (congrArg (fun z => z.2.2) hu21).symm
    subst eB21
    clear hu21
    refine lv_if_eq (tgt := 29) hx hb dX8_basis_24 (by decide) (fun c24 => ?_) (fun c24 => ?_)
    · -- 24 taken
      have hv : ∃ i, i < dmA fr to ne ∧ ib = nI i := inv20.elim (fun h => by rw [w21, h.1] at c24; exact absurd c24 (by decide)) (fun h => h.2)
      have eo : o = 0 := inv20.elim (fun h => by rw [w21, h.1] at c24; exact absurd c24 (by decide)) (fun h => h.1)
      obtain ⟨i, hi, eib⟩ := hv
      have eT : I21 = va_up I1 0 0 := by rw [eI21, eo]; rfl
      have hfT : fP I A B (I21, A1, B1) := w1.2.2.fp.tr (fP.rf0 eT)
      have gT := g.fp hfT
      have e0 : I21 0 = 0 := by rw [eT]; exact up_self
      refine lv_aload_n hx hb dX8_basis_29 rfl (lv_at hl 0 rfl) ?_
      refine ct_calli hD hS hA (va_runV (As := []) (rest := []) F ((k_X8_spread l dC dI cI cJ cZ cII cJJ R I21 A1 B1 nv ne fr to wt gT hd) _) (cwV 0 hts gX8_basis_X8_spread rfl rfl rfl (by decide +kernel) ⟨(Nat.le_of_ble_eq_true rfl), (Nat.le_of_ble_eq_true rfl)⟩) (ct_preV 0 8 hK hN hP hD rfl rfl) rfl rfl hl.1 rfl (lv_room (Nat.le_of_ble_eq_true rfl)) dX8_basis_30 ⟨(Nat.le_of_ble_eq_true rfl), (Nat.le_of_ble_eq_true rfl)⟩) (fun r30 u30 H locs w30 hP hD hS => ?_)
      obtain ⟨I30, A30, B30⟩ := u30
      have er30 : r30 = nI (2 ^ dmA fr to ne) := w30.1
      subst er30
      have hpw := pw14 hd
      have hel := w30.2.1
      refine lv_istore_n (lv' := [(3, .int (nI (2 ^ dmA fr to ne))), (0, .ref (R 0)), (1, .int ib), (2, .int (nI (dmA fr to ne)))]) hx hb dX8_basis_33 rfl hl (by decide) rfl (fun ls hl => ?_)
      refine lv_aload_n hx hb dX8_basis_34 rfl (lv_at hl 1 rfl) ?_
      refine lv_iconst (v := 0) hx hb dX8_basis_35 (by decide) ?_
      refine va_put (D := (dC, dI)) (ci := 8) (v := .int 0) (ty := .int) (C := RX8) (T := TX8) (N := 20) hx hb hts hinX8 tyX8 tyX8_ok nmX8 hown hK hP hD hS 0 rfl rfl 16 (by decide) hf130 (fun _ h9 => h9) rfl (by decide +kernel) rfl rfl (Nat.le_of_ble_eq_true rfl) dX8_basis_36 (fun H locs hP hD hS => ?_)
      obtain ⟨I36, eI36⟩ : ∃ zz : Nat → Int32, zz = va_up I30 16 0 := ⟨_, rfl⟩
      have hP : va_P (dC, dI) vwCl (MW cI cJ cZ R (I36, A30, B30)) H := by rw [eI36]; exact hP
      have hD : va_D Aa (MW cI cJ cZ R (I36, A30, B30)) := by rw [eI36]; exact hD
      refine lv_lconst (v := 0) hx hb dX8_basis_39 (by decide) ?_
      refine lv_lstore (lv' := [(4, .long 0), (3, .int (nI (2 ^ dmA fr to ne))), (0, .ref (R 0)), (1, .int ib), (2, .int (nI (dmA fr to ne)))]) hx hb dX8_basis_40 hl (by decide) rfl (fun ls hl => ?_)
      refine lv_iconst (v := 0) hx hb dX8_basis_42 (by decide) ?_
      refine lv_istore (lv' := [(6, .int 0), (4, .long 0), (3, .int (nI (2 ^ dmA fr to ne))), (0, .ref (R 0)), (1, .int ib), (2, .int (nI (dmA fr to ne)))]) hx hb dX8_basis_43 hl (by decide) rfl (fun ls hl => ?_)
      have K45 : ∀ (kn : Nat) (k : Nat) (y4 : Int64) (I_45 : Nat → Int32) (B_45 : Nat → Nat → Int64) (ls : Array Slot) (H : Heap) (locs : List Loc), i + 1 - k < kn → (k ≤ i + 1 ∧ (∃ pk, grd (fun c => wsum wt (elA fr to ne c) ne) (2 ^ dmA fr to ne) pk k ∧ (0 < k → y4 = lN ((fun c => wsum wt (elA fr to ne c) ne) (pk (k - 1)))) ∧ ∃ rows, rR 14 k rows I_45 B_45 ∧ rowsS k rows (fun a => ∃ j, j < k ∧ a = pk j)) ∧ (∀ k, k ≠ 16 → I_45 k = I30 k) ∧ ∀ k, k ≠ 15 → B_45 k = B30 k) → va_P (dC, dI) vwCl (MW cI cJ cZ R (I_45, A30, B_45)) H → va_D Aa (MW cI cJ cZ R (I_45, A30, B_45)) → va_S Aa s.heap H locs → lv_has ls 9 [(0, .ref (R 0)), (1, .int ib), (3, .int (nI (2 ^ dmA fr to ne))), (4, .long y4), (6, .int (nI k))] → W p l e (ctR (4, 110)) s m #[.ref (R 0), .int ib] below meth c H locs 0 0 Q (F0 m 45 ls []) := by
        intro kn
        induction kn with
        | zero => intro k y4 I_45 B_45 ls H locs hmu; exact absurd hmu (Nat.not_lt_zero _)
        | succ kn ih45 =>
          intro k y4 I_45 B_45 ls H locs mu45 inv45 hP hD hS hl
          obtain ⟨hk1, ⟨pk, hg, ey, rows, hr, hs⟩, hI, hB⟩ := inv45
          have hB14 : B_45 14 = B30 14 := hB 14 (by decide)
          refine lv_iload hx hb dX8_basis_45 (lv_at hl 4 rfl) ?_
          refine lv_iload_n hx hb dX8_basis_47 rfl (lv_at hl 1 rfl) ?_
          refine lv_icmp_gt (tgt := 131) hx hb dX8_basis_48 (by decide) (fun c48 => ?_) (fun c48 => ?_)
          · -- 48 taken
            have hge : k = i + 1 := by rw [eib, nI_ltI (by omega) (by omega)] at c48; omega
            refine lv_lload hx hb dX8_basis_131 (lv_at hl 3 rfl) ?_
            refine hret 133 ls _ _ y4 (I_45, A30, B_45) dX8_basis_133 ?_ hP hD hS
            try dsimp only
            exact ⟨fun i2 hi2 he => by have e3 : i = i2 := (nI_eq (by omega) (by omega)).mp (by rw [← eib]; exact he); subst e3; rw [hge] at hg ey; exact ⟨(hI 0 (by decide)).trans ((w30.2.2.2.1 0 (by decide)).trans e0), hfT.tr (w30.2.2.2.fp.tr (fP.of (fun k _ _ h => hI k h) (fun _ _ _ _ _ => rfl) (fun k _ _ _ _ h _ => hB k h))), pk, hg, by have := ey (by omega); rw [show i + 1 - 1 = i by omega] at this; exact this⟩, fun h => by rw [eib] at h; exact h.elim (fun h => absurd h (nI_pos (by omega))) (fun h => absurd ((nI_leI (by omega) (by omega)).mp h) (by omega))⟩
          · -- 48 not
            rw [eib, nI_ltI (by omega) (by omega)] at c48
            refine lv_iconst (v := (-1)) hx hb dX8_basis_51 (by decide) ?_
            refine lv_istore (lv' := [(7, .int ((-1))), (0, .ref (R 0)), (1, .int ib), (3, .int (nI (2 ^ dmA fr to ne))), (4, .long y4), (6, .int (nI k))]) hx hb dX8_basis_52 hl (by decide) rfl (fun ls hl => ?_)
            refine lv_iconst (v := 1) hx hb dX8_basis_54 (by decide) ?_
            refine lv_istore (lv' := [(8, .int 1), (7, .int ((-1))), (0, .ref (R 0)), (1, .int ib), (3, .int (nI (2 ^ dmA fr to ne))), (4, .long y4), (6, .int (nI k))]) hx hb dX8_basis_55 hl (by decide) rfl (fun ls hl => ?_)
            have K57 : ∀ (kn : Nat) (x : Nat) (bb : Int32) (ls : Array Slot) (H : Heap) (locs : List Loc), 2 ^ (dmA fr to ne) - x < kn → (1 ≤ x ∧ x ≤ 2 ^ dmA fr to ne ∧ bst (fun c => wsum wt (elA fr to ne c) ne) (fun a => ∃ j, j < k ∧ a = pk j) (x) bb) → va_P (dC, dI) vwCl (MW cI cJ cZ R (I_45, A30, B_45)) H → va_D Aa (MW cI cJ cZ R (I_45, A30, B_45)) → va_S Aa s.heap H locs → lv_has ls 9 [(0, .ref (R 0)), (1, .int ib), (3, .int (nI (2 ^ dmA fr to ne))), (4, .long y4), (6, .int (nI k)), (7, .int bb), (8, .int (nI x))] → W p l e (ctR (4, 110)) s m #[.ref (R 0), .int ib] below meth c H locs 0 0 Q (F0 m 57 ls []) := by
              intro kn
              induction kn with
              | zero => intro x bb ls H locs hmu; exact absurd hmu (Nat.not_lt_zero _)
              | succ kn ih57 =>
                intro x bb ls H locs mu57 inv57 hP hD hS hl
                obtain ⟨h1, hx2, hbst⟩ := inv57
                refine lv_iload hx hb dX8_basis_57 (lv_at hl 6 rfl) ?_
                refine lv_iload_n hx hb dX8_basis_59 rfl (lv_at hl 2 rfl) ?_
                refine lv_icmp_ge (tgt := 108) hx hb dX8_basis_60 (by decide) (fun c60 => ?_) (fun c60 => ?_)
                · -- 60 taken
                  rw [nI_leI (by omega) (by omega)] at c60
                  have hge : x = 2 ^ dmA fr to ne := by omega
                  rw [hge] at hbst
                  obtain ⟨b0, hb0, eb, hb1, hb2⟩ : ∃ b0, b0 < 2 ^ dmA fr to ne ∧ bb = nI b0 ∧ ¬ spS (fun a => ∃ j, j < k ∧ a = pk j) b0 ∧ ∀ y, y < 2 ^ dmA fr to ne → ¬ spS (fun a => ∃ j, j < k ∧ a = pk j) y → (fun c => wsum wt (elA fr to ne c) ne) b0 ≤ (fun c => wsum wt (elA fr to ne c) ne) y := bst_end hbst (fun h => by obtain ⟨y, hy, hy2⟩ := no_span (k := k) (d := dmA fr to ne) pk (by omega); exact hy2 (h y hy))
                  have b14 : b0 < 2 ^ 14 := by omega
                  refine lv_aload_n hx hb dX8_basis_108 rfl (lv_at hl 0 rfl) ?_
                  refine va_get (D := (dC, dI)) (ci := 8) (v := .ref (R 14)) (C := RX8) (T := TX8) (N := 20) hx hb hts hinX8 hown hK hP 0 rfl rfl 14 (by decide) hf42 (fun _ h9 => h9) rfl dX8_basis_109 ?_
                  refine lv_iload hx hb dX8_basis_112 (lv_at hl 5 rfl) ?_
                  have h114 : vp_in bb 16384 := by rw [eb]; exact vp_in_nI (by omega) (by omega)
                  refine va_lald hx hb hK hP 10 1 rfl rfl h114 dX8_basis_114 ?_
                  refine lv_topl (fun x114 ex114 => ?_)
                  have ex114 : x114 = B_45 14 bb.toNatClampNeg := ex114
                  refine lv_lstore (lv' := [(4, .long x114), (0, .ref (R 0)), (1, .int ib), (3, .int (nI (2 ^ dmA fr to ne))), (6, .int (nI k)), (7, .int bb), (8, .int (nI x))]) hx hb dX8_basis_115 hl (by decide) rfl (fun ls hl => ?_)
                  refine lv_aload_n hx hb dX8_basis_117 rfl (lv_at hl 1 rfl) ?_
                  refine lv_iload hx hb dX8_basis_118 (lv_at hl 5 rfl) ?_
                  refine lv_i2l hx hb dX8_basis_120 rfl ?_
                  refine lv_topl (fun x120 ex120 => ?_)
                  have ex120 : x120 = lN b0 := by rw [ex120, eb]; exact nm_il (by omega)
                  subst ex120
                  refine ct_calli hD hS hA (va_runV (As := [.long (lN b0)]) (rest := []) F ((k_X8_take l dC dI cI cJ cZ cII cJJ R I_45 A30 B_45 14 k rows (fun a => ∃ j, j < k ∧ a = pk j) b0 (by omega) hr hs b14) _) (cwV 1 hts gX8_basis_X8_take rfl rfl rfl (by decide +kernel) ⟨(Nat.le_of_ble_eq_true rfl), (Nat.le_of_ble_eq_true rfl)⟩) (ct_preV 0 8 hK hN hP hD rfl rfl) rfl rfl hl.1 rfl (lv_room (Nat.le_of_ble_eq_true rfl)) dX8_basis_121 ⟨(Nat.le_of_ble_eq_true rfl), (Nat.le_of_ble_eq_true rfl)⟩) (fun r121 u121 H locs w121 hP hD hS => ?_)
                  obtain ⟨I121, A121, B121⟩ := u121
                  obtain ⟨rd2, rows2, t1, t2, t3, t4, t5, t6⟩ := w121
                  have t5 : A30 = A121 := t5.symm
                  subst t5
                  have erd : rd2 = k + 1 := t3.elim (fun h => absurd h.1 hb1) (fun h => h.2.2)
                  subst erd
                  refine lv_pop hx hb dX8_basis_124 rfl ?_
                  obtain ⟨x125, ex125⟩ : ∃ zz : Int32, zz = nI k + (1) := ⟨_, rfl⟩
                  refine lv_iinc (v := x125) (lv' := [(6, .int x125), (4, .long x114), (0, .ref (R 0)), (1, .int ib), (3, .int (nI (2 ^ dmA fr to ne))), (7, .int bb), (8, .int (nI x))]) hx hb dX8_basis_125 hl (k := 4) rfl (by rw [ex125]; rfl) (by decide) rfl (fun ls hl => ?_)
                  have ex125 : x125 = nI (k + 1) := by rw [ex125]; exact nI_1 k
                  subst ex125
                  refine lv_goto (tgt := 45) hx hb dX8_basis_128 (by decide) ?_
                  exact ih45 (k + 1) x114 I121 B121 ls _ _ (by omega) ⟨by omega, ⟨va_up pk k b0, grd_add hg hb0 hb1 hb2, fun _ => by rw [show k + 1 - 1 = k by omega, up_self, ex114, eb, nI_clamp (show b0 < 2 ^ 31 by omega), hB14]; exact (hel b0 hb0).2, rows2, t1, t2.cong (fun a => up_P)⟩, fun k hk => (t4 k hk).trans (hI k hk), fun k hk => (t6 k hk).trans (hB k hk)⟩ hP hD hS (lv_sub hl [2, 3, 4, 1, 0] rfl)
                · -- 60 not
                  rw [nI_leI (by omega) (by omega)] at c60
                  have xcl : (nI x).toNatClampNeg = x := nI_clamp (by omega)
                  have xin : vp_in (nI x) 16384 := vp_in_nI (by omega) (by omega)
                  have x14 : x < 2 ^ 14 := by omega
                  refine lv_iload hx hb dX8_basis_63 (lv_at hl 5 rfl) ?_
                  refine lv_if_lt (tgt := 86) hx hb dX8_basis_65 (by decide) (fun c65 => ?_) (fun c65 => ?_)
                  · -- 65 taken
                    have hlow : ∀ b0, b0 < x → bb = nI b0 → (fun c => wsum wt (elA fr to ne c) ne) x ≤ (fun c => wsum wt (elA fr to ne c) ne) b0 := fun b0 h e => absurd c65 (by rw [e]; exact nI_pos (by omega))
                    refine lv_aload_n hx hb dX8_basis_86 rfl (lv_at hl 0 rfl) ?_
                    refine lv_iload hx hb dX8_basis_87 (lv_at hl 6 rfl) ?_
                    refine lv_i2l hx hb dX8_basis_89 rfl ?_
                    refine lv_topl (fun x89 ex89 => ?_)
                    have ex89 : x89 = lN x := by rw [ex89]; exact nm_il (by omega)
                    subst ex89
                    refine ct_calll hD hS hA (va_runV (As := [.long (lN x)]) (rest := []) F ((k_X8_rest l dC dI cI cJ cZ cII cJJ R I_45 A30 B_45 14 k rows x (by omega) hr (by omega) x14) _) (cwV 1 hts gX8_basis_X8_rest rfl rfl rfl (by decide +kernel) ⟨(Nat.le_of_ble_eq_true rfl), (Nat.le_of_ble_eq_true rfl)⟩) (ct_preV 0 8 hK hN hP hD rfl rfl) rfl rfl hl.1 rfl (lv_room (Nat.le_of_ble_eq_true rfl)) dX8_basis_90 ⟨(Nat.le_of_ble_eq_true rfl), (Nat.le_of_ble_eq_true rfl)⟩) (fun r90 u90 H locs w90 hP hD hS => ?_)
                    obtain ⟨w90, rfl⟩ := w90
                    refine lv_lconst (v := 0) hx hb dX8_basis_93 (by decide) ?_
                    refine W.lcmp hx hb dX8_basis_94 ?_
                    refine lv_if_eq (tgt := 102) hx hb dX8_basis_95 (by decide) (fun c95 => ?_) (fun c95 => ?_)
                    · -- 95 taken
                      rw [lg_cmp_eq] at c95
                      rw [w90] at c95
                      have c95 : spS (fun a => ∃ j, j < k ∧ a = pk j) x := (hs.rest _).mp ((pk_lEQ (b := 0) (pwb (rsn_lt x14 k (fun j hj => (hr.2 j hj).2)) (by omega)) (by decide)).mp c95)
                      obtain ⟨x102, ex102⟩ : ∃ zz : Int32, zz = nI x + (1) := ⟨_, rfl⟩
                      refine lv_iinc (v := x102) (lv' := [(8, .int x102), (0, .ref (R 0)), (1, .int ib), (3, .int (nI (2 ^ dmA fr to ne))), (4, .long y4), (6, .int (nI k)), (7, .int bb)]) hx hb dX8_basis_102 hl (k := 6) rfl (by rw [ex102]; rfl) (by decide) rfl (fun ls hl => ?_)
                      have ex102 : x102 = nI (x + 1) := by rw [ex102]; exact nI_1 x
                      subst ex102
                      refine lv_goto (tgt := 57) hx hb dX8_basis_105 (by decide) ?_
                      exact ih57 (x + 1) bb ls _ _ (by omega) ⟨by omega, by omega, bst_skip hbst c95⟩ hP hD hS (lv_sub hl [1, 2, 3, 4, 5, 6, 0] rfl)
                    · -- 95 not
                      rw [lg_cmp_eq] at c95
                      have c95 : ¬ spS (fun a => ∃ j, j < k ∧ a = pk j) x := fun h => c95 (by rw [w90, (hs.rest _).mpr h]; rfl)
                      refine lv_iload hx hb dX8_basis_98 (lv_at hl 6 rfl) ?_
                      refine lv_istore (lv' := [(7, .int (nI x)), (0, .ref (R 0)), (1, .int ib), (3, .int (nI (2 ^ dmA fr to ne))), (4, .long y4), (6, .int (nI k)), (8, .int (nI x))]) hx hb dX8_basis_100 hl (by decide) rfl (fun ls hl => ?_)
                      obtain ⟨x102, ex102⟩ : ∃ zz : Int32, zz = nI x + (1) := ⟨_, rfl⟩
                      refine lv_iinc (v := x102) (lv' := [(8, .int x102), (7, .int (nI x)), (0, .ref (R 0)), (1, .int ib), (3, .int (nI (2 ^ dmA fr to ne))), (4, .long y4), (6, .int (nI k))]) hx hb dX8_basis_102 hl (k := 6) rfl (by rw [ex102]; rfl) (by decide) rfl (fun ls hl => ?_)
                      have ex102 : x102 = nI (x + 1) := by rw [ex102]; exact nI_1 x
                      subst ex102
                      refine lv_goto (tgt := 57) hx hb dX8_basis_105 (by decide) ?_
                      exact ih57 (x + 1) (nI x) ls _ _ (by omega) ⟨by omega, by omega, bst_new hbst c95 hlow⟩ hP hD hS (lv_sub hl [2, 3, 4, 5, 6, 1, 0] rfl)
                  · -- 65 not
                    obtain ⟨b0, hb0, eb, hb1, hb2⟩ : ∃ b0, b0 < x ∧ bb = nI b0 ∧ ¬ spS (fun a => ∃ j, j < k ∧ a = pk j) b0 ∧ ∀ y, y < x → ¬ spS (fun a => ∃ j, j < k ∧ a = pk j) y → (fun c => wsum wt (elA fr to ne c) ne) b0 ≤ (fun c => wsum wt (elA fr to ne c) ne) y := bst_elim hbst c65
                    have bcl : bb.toNatClampNeg = b0 := by rw [eb]; exact nI_clamp (by omega)
                    refine lv_aload_n hx hb dX8_basis_68 rfl (lv_at hl 0 rfl) ?_
                    refine va_get (D := (dC, dI)) (ci := 8) (v := .ref (R 14)) (C := RX8) (T := TX8) (N := 20) hx hb hts hinX8 hown hK hP 0 rfl rfl 14 (by decide) hf42 (fun _ h9 => h9) rfl dX8_basis_69 ?_
                    refine lv_iload hx hb dX8_basis_72 (lv_at hl 6 rfl) ?_
                    have h74 : vp_in (nI x) 16384 := xin
                    refine va_lald hx hb hK hP 10 1 rfl rfl h74 dX8_basis_74 ?_
                    refine lv_topl (fun x74 ex74 => ?_)
                    have ex74 : x74 = B_45 14 (nI x).toNatClampNeg := ex74
                    have ex74 : x74 = lN ((fun c => wsum wt (elA fr to ne c) ne) x) := by rw [ex74, xcl, hB14]; exact (hel x (by omega)).2
                    refine lv_aload_n hx hb dX8_basis_75 rfl (lv_at hl 0 rfl) ?_
                    refine va_get (D := (dC, dI)) (ci := 8) (v := .ref (R 14)) (C := RX8) (T := TX8) (N := 20) hx hb hts hinX8 hown hK hP 0 rfl rfl 14 (by decide) hf42 (fun _ h9 => h9) rfl dX8_basis_76 ?_
                    refine lv_iload hx hb dX8_basis_79 (lv_at hl 5 rfl) ?_
                    have h81 : vp_in bb 16384 := by rw [eb]; exact vp_in_nI (by omega) (by omega)
                    refine va_lald hx hb hK hP 10 1 rfl rfl h81 dX8_basis_81 ?_
                    refine lv_topl (fun x81 ex81 => ?_)
                    have ex81 : x81 = B_45 14 bb.toNatClampNeg := ex81
                    have ex81 : x81 = lN ((fun c => wsum wt (elA fr to ne c) ne) b0) := by rw [ex81, bcl, hB14]; exact (hel b0 (by omega)).2
                    refine W.lcmp hx hb dX8_basis_82 ?_
                    refine lv_if_ge (tgt := 102) hx hb dX8_basis_83 (by decide) (fun c83 => ?_) (fun c83 => ?_)
                    · -- 83 taken
                      rw [lg_cmp_ge] at c83
                      rw [ex74, ex81, pk_lLE (Nat.lt_trans (g.wl _) (by decide)) (Nat.lt_trans (g.wl _) (by decide))] at c83
                      obtain ⟨x102, ex102⟩ : ∃ zz : Int32, zz = nI x + (1) := ⟨_, rfl⟩
                      refine lv_iinc (v := x102) (lv' := [(8, .int x102), (0, .ref (R 0)), (1, .int ib), (3, .int (nI (2 ^ dmA fr to ne))), (4, .long y4), (6, .int (nI k)), (7, .int bb)]) hx hb dX8_basis_102 hl (k := 6) rfl (by rw [ex102]; rfl) (by decide) rfl (fun ls hl => ?_)
                      have ex102 : x102 = nI (x + 1) := by rw [ex102]; exact nI_1 x
                      subst ex102
                      refine lv_goto (tgt := 57) hx hb dX8_basis_105 (by decide) ?_
                      exact ih57 (x + 1) bb ls _ _ (by omega) ⟨by omega, by omega, bst_keep hb0 eb hb1 hb2 c83⟩ hP hD hS (lv_sub hl [1, 2, 3, 4, 5, 6, 0] rfl)
                    · -- 83 not
                      rw [lg_cmp_ge] at c83
                      rw [ex74, ex81, pk_lLE (Nat.lt_trans (g.wl _) (by decide)) (Nat.lt_trans (g.wl _) (by decide))] at c83
                      have hlow : ∀ b1, b1 < x → bb = nI b1 → (fun c => wsum wt (elA fr to ne c) ne) x ≤ (fun c => wsum wt (elA fr to ne c) ne) b1 := fun b1 h e => by have e2 : b0 = b1 := (nI_eq (by omega) (by omega)).mp (by rw [← eb]; exact e); rw [← e2]; exact Nat.le_of_lt (Nat.lt_of_not_le c83)
                      refine lv_aload_n hx hb dX8_basis_86 rfl (lv_at hl 0 rfl) ?_
                      refine lv_iload hx hb dX8_basis_87 (lv_at hl 6 rfl) ?_
                      refine lv_i2l hx hb dX8_basis_89 rfl ?_
                      refine lv_topl (fun x89 ex89 => ?_)
                      have ex89 : x89 = lN x := by rw [ex89]; exact nm_il (by omega)
                      subst ex89
                      refine ct_calll hD hS hA (va_runV (As := [.long (lN x)]) (rest := []) F ((k_X8_rest l dC dI cI cJ cZ cII cJJ R I_45 A30 B_45 14 k rows x (by omega) hr (by omega) x14) _) (cwV 1 hts gX8_basis_X8_rest rfl rfl rfl (by decide +kernel) ⟨(Nat.le_of_ble_eq_true rfl), (Nat.le_of_ble_eq_true rfl)⟩) (ct_preV 0 8 hK hN hP hD rfl rfl) rfl rfl hl.1 rfl (lv_room (Nat.le_of_ble_eq_true rfl)) dX8_basis_90 ⟨(Nat.le_of_ble_eq_true rfl), (Nat.le_of_ble_eq_true rfl)⟩) (fun r90 u90 H locs w90 hP hD hS => ?_)
                      obtain ⟨w90, rfl⟩ := w90
                      refine lv_lconst (v := 0) hx hb dX8_basis_93 (by decide) ?_
                      refine W.lcmp hx hb dX8_basis_94 ?_
                      refine lv_if_eq (tgt := 102) hx hb dX8_basis_95 (by decide) (fun c95 => ?_) (fun c95 => ?_)
                      · -- 95 taken
                        rw [lg_cmp_eq] at c95
                        rw [w90] at c95
                        have c95 : spS (fun a => ∃ j, j < k ∧ a = pk j) x := (hs.rest _).mp ((pk_lEQ (b := 0) (pwb (rsn_lt x14 k (fun j hj => (hr.2 j hj).2)) (by omega)) (by decide)).mp c95)
                        obtain ⟨x102, ex102⟩ : ∃ zz : Int32, zz = nI x + (1) := ⟨_, rfl⟩
                        refine lv_iinc (v := x102) (lv' := [(8, .int x102), (0, .ref (R 0)), (1, .int ib), (3, .int (nI (2 ^ dmA fr to ne))), (4, .long y4), (6, .int (nI k)), (7, .int bb)]) hx hb dX8_basis_102 hl (k := 6) rfl (by rw [ex102]; rfl) (by decide) rfl (fun ls hl => ?_)
                        have ex102 : x102 = nI (x + 1) := by rw [ex102]; exact nI_1 x
                        subst ex102
                        refine lv_goto (tgt := 57) hx hb dX8_basis_105 (by decide) ?_
                        exact ih57 (x + 1) bb ls _ _ (by omega) ⟨by omega, by omega, bst_skip hbst c95⟩ hP hD hS (lv_sub hl [1, 2, 3, 4, 5, 6, 0] rfl)
                      · -- 95 not
                        rw [lg_cmp_eq] at c95
                        have c95 : ¬ spS (fun a => ∃ j, j < k ∧ a = pk j) x := fun h => c95 (by rw [w90, (hs.rest _).mpr h]; rfl)
                        refine lv_iload hx hb dX8_basis_98 (lv_at hl 6 rfl) ?_
                        refine lv_istore (lv' := [(7, .int (nI x)), (0, .ref (R 0)), (1, .int ib), (3, .int (nI (2 ^ dmA fr to ne))), (4, .long y4), (6, .int (nI k)), (8, .int (nI x))]) hx hb dX8_basis_100 hl (by decide) rfl (fun ls hl => ?_)
                        obtain ⟨x102, ex102⟩ : ∃ zz : Int32, zz = nI x + (1) := ⟨_, rfl⟩
                        refine lv_iinc (v := x102) (lv' := [(8, .int x102), (7, .int (nI x)), (0, .ref (R 0)), (1, .int ib), (3, .int (nI (2 ^ dmA fr to ne))), (4, .long y4), (6, .int (nI k))]) hx hb dX8_basis_102 hl (k := 6) rfl (by rw [ex102]; rfl) (by decide) rfl (fun ls hl => ?_)
                        have ex102 : x102 = nI (x + 1) := by rw [ex102]; exact nI_1 x
                        subst ex102
                        refine lv_goto (tgt := 57) hx hb dX8_basis_105 (by decide) ?_
                        exact ih57 (x + 1) (nI x) ls _ _ (by omega) ⟨by omega, by omega, bst_new hbst c95 hlow⟩ hP hD hS (lv_sub hl [2, 3, 4, 5, 6, 1, 0] rfl)
            exact K57 _ 1 ((-1)) ls _ _ (Nat.lt_succ_self _) ⟨Nat.le_refl 1, Nat.two_pow_pos _, Or.inl ⟨rfl, fun y hy => (show y = 0 by omega) ▸ spS_0 _⟩⟩ hP hD hS (lv_sub hl [2, 3, 4, 5, 6, 1, 0] rfl)
      exact K45 _ 0 0 I36 B30 ls _ _ (Nat.lt_succ_self _) ⟨Nat.zero_le _, ⟨fun _ => 0, fun j h => absurd h (Nat.not_lt_zero _), fun h => absurd h (Nat.lt_irrefl _), fun _ => 0, ⟨by rw [eI36, up_self]; rfl, fun k h => absurd h (Nat.not_lt_zero _)⟩, rowsS_0 _ (fun a ⟨i, h, _⟩ => absurd h (Nat.not_lt_zero _))⟩, fun k hk => by rw [eI36, up_ne hk], fun _ _ => rfl⟩ hP hD hS (lv_sub hl [3, 4, 2, 1, 0] rfl)
    · -- 24 not
      have hv : o = 1 ∧ (ib < 0 ∨ nI (dmA fr to ne) ≤ ib) := inv20.elim id (fun h => by rw [w21, h.1] at c24; exact absurd rfl c24)
      have eT : I21 = va_up I1 0 1 := by rw [eI21, hv.1]; rfl
      refine lv_lconst (v := 0) hx hb dX8_basis_27 (by decide) ?_
      refine hret 28 ls _ _ 0 (I21, A1, B1) dX8_basis_28 ?_ hP hD hS
      try dsimp only
      exact ⟨fun i hi he => by rw [he] at hv; exact hv.2.elim (fun h => absurd h (nI_pos (by omega))) (fun h => absurd ((nI_leI (by omega) (by omega)).mp h) (by omega)), fun _ => ⟨by rw [eT]; exact up_self, w1.2.2.fp.tr (fP.rf0 eT)⟩⟩
  refine lv_aload_n hx hb dX8_basis_5 rfl (lv_at hl 1 rfl) ?_
  refine lv_iload_n hx hb dX8_basis_6 rfl (lv_at hl 2 rfl) ?_
  refine lv_if_lt (tgt := 15) hx hb dX8_basis_7 (by decide) (fun c7 => ?_) (fun c7 => ?_)
  · -- 7 taken
    refine lv_iconst (v := 1) hx hb dX8_basis_15 (by decide) ?_
    refine lv_goto (tgt := 20) hx hb dX8_basis_16 (by decide) ?_
    exact K20 1 ls _ _  (Or.inl ⟨rfl, Or.inl c7⟩) hP hD hS (lv_sub hl [1, 2, 0] rfl)
  · -- 7 not
    refine lv_iload_n hx hb dX8_basis_10 rfl (lv_at hl 2 rfl) ?_
    refine lv_iload_n hx hb dX8_basis_11 rfl (lv_at hl 0 rfl) ?_
    refine lv_icmp_lt (tgt := 19) hx hb dX8_basis_12 (by decide) (fun c12 => ?_) (fun c12 => ?_)
    · -- 12 taken
      refine lv_iconst (v := 0) hx hb dX8_basis_19 (by decide) ?_
      exact K20 0 ls _ _  (Or.inr ⟨rfl, by obtain ⟨j, hj, ej⟩ := nI_of c7; exact ⟨j, (nI_ltI hj (by omega)).mp (by rw [← ej]; exact c12), ej⟩⟩) hP hD hS (lv_sub hl [1, 2, 0] rfl)
    · -- 12 not
      refine lv_iconst (v := 1) hx hb dX8_basis_15 (by decide) ?_
      refine lv_goto (tgt := 20) hx hb dX8_basis_16 (by decide) ?_
      exact K20 1 ls _ _  (Or.inl ⟨rfl, Or.inr (Int32.not_lt.mp c12)⟩) hP hD hS (lv_sub hl [1, 2, 0] rfl)
