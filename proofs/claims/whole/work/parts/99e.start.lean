-- the law's start: the house, the reference, the cell for answers, then the loop
theorem perm_e (a b c : va_W) : ((a ++ b) ++ c).Perm ((a ++ c) ++ b) := by
  rw [List.append_assoc, List.append_assoc]
  exact List.Perm.append_left a List.perm_append_comm
def u0M : sgM := (fun k => if k = 1 then 1 else 0, fun _ _ => 0, fun _ _ => 0)
theorem SY_0 : SY u0H u0M := by
  refine ⟨1, 0, fun _ => 0, fun _ => 0, fun _ => 0, 0, fun _ => 0, fun _ => 0, ?_, ?_, Nat.zero_le _, ?_, lsI_0 _, ?_⟩
  · exact ⟨Nat.le_refl _, by decide, Nat.zero_le _, rfl, rfl, fun e he => absurd he (Nat.not_lt_zero _)⟩
  · exact ⟨Nat.le_refl _, by decide, Nat.zero_le _, rfl, rfl, fun e he => absurd he (Nat.not_lt_zero _)⟩
  · exact ⟨rfl, by rw [rk]; rfl, fun e _ => ⟨rfl, Nat.two_pow_pos 40⟩⟩
  · exact ⟨rfl, Nat.zero_le _, fun k hk => absurd hk (Nat.not_lt_zero _)⟩
set_option maxHeartbeats 8000000 in
set_option maxRecDepth 100000 in
theorem whole_start {p : Program} {e : Env} {s : State} {m : MethodId} {below : List Frame} {meth : Method} {c : Code} (l : Launch) {b L : Nat} {xs : Nat → Int32} (hlt : l.stackTraces = false) (hL : L ≤ 2048) (C0 : lw_At p s m meth c b L xs) : W p l e room_1 s m #[Value.ref b] below meth c s.heap [] 0 0 (lw_Z below #[Value.ref b] s) (entryFrame m ([Value.ref b] : List Value).toArray 8) := by
  obtain ⟨hx, hb, hr, hml, hown, htl, hX, hbl, hlocks, hgv⟩ := id C0
  obtain ⟨dC, dI, cI, cJ, cZ, cII, cJJ, LC, hao⟩ := lw_enter (l := l) (meth := meth) hlt hL hx hb hml hown htl hX hbl hgv
  have LC0 := LC
  obtain ⟨F, hK, hN, -⟩ := LC0
  have hown := F.2.2.2.1
  have hts := F.2.2.2.2
  have hA : ∀ q : Nat, s.heap.size ≤ q → (fun q : Nat => s.heap.size ≤ q) q := fun _ h => h
  have hS : va_S (fun q : Nat => s.heap.size ≤ q) s.heap s.heap [] := va_S.rf
  have hP : va_P (dC, dI) vwCl [] s.heap := fun k q h => by simp at h
  have hD : va_D (fun q : Nat => s.heap.size ≤ q) [] := ⟨fun i j p q h => by simp at h, fun k q h => by simp at h⟩
  have hl := lv_entry ([.ref b]) (n := 8) (Nat.le_of_ble_eq_true rfl)
  rw [lg_entry_eq]
  generalize (lg_sl ([.ref b]) ++ List.replicate (8 - (lg_sl ([.ref b])).length) Slot.unset).toArray = ls at hl ⊢
  have hl : lv_has ls 8 [(0, .ref b)] := hl
  refine va_new (ci := 7) (fs := [.null, .null, .null, .null, .null, .null, .null, .null]) (C := RX7) (T := TX7) (N := 8) hx hb htl in_wsX70 tyX7 tyX7_ok hown (htl (.classLink RL 8 RX7) (by decide +kernel)) (htl (.instantiable RX7 8) (by decide +kernel)) (htl (.initialized RX7) (by decide +kernel)) hK hP hD hS hA rfl (fun j hj => by rcases j with _ | _ | _ | _ | _ | _ | _ | _ | j <;> first | rfl | omega) (Nat.le_of_ble_eq_true rfl) (Nat.le_of_ble_eq_true rfl) dL_law_0 (fun q0 H hP hD hS => ?_)
  refine lv_dup hx hb dL_law_3 rfl ?_
  refine cn_call (wr := []) (e0 := .inr (7, [.null, .null, .null, .null, .null, .null, .null, .null])) (q := q0) hP hD hS hA (va_runI (As := []) (rest := [.ref q0]) F (k_X7_init l dC dI cI cJ cZ cII cJJ q0 H.size) (cwI 0 hts gL_law_X7_init rfl rfl rfl (htl (.initialized RX7) (by decide +kernel)) (htl (.methodLink RL 58 yX7_init) (by decide +kernel)) (htl (.instanceMethod yX7_init) (by decide +kernel)) rfl (by decide +kernel) ⟨(Nat.le_of_ble_eq_true rfl), (Nat.le_of_ble_eq_true rfl)⟩) (cn_pre (wr := []) hK hao hP hD) rfl rfl hl.1 rfl (lv_room (Nat.le_of_ble_eq_true rfl)) dL_law_4 ⟨(Nat.le_of_ble_eq_true rfl), (Nat.le_of_ble_eq_true rfl)⟩) (fun U H locs hP hD hS => ?_)
  have hP : va_P (dC, dI) vwCl (HW cI cJ cII cJJ (fun k => if k = 0 then q0 else U k) u0H) H := hP
  have hD : va_D (fun q : Nat => s.heap.size ≤ q) (HW cI cJ cII cJJ (fun k => if k = 0 then q0 else U k) u0H) := hD
  obtain ⟨R, hR⟩ : ∃ R : Nat → Nat, R = (fun k => if k = 0 then q0 else U k) := ⟨_, rfl⟩
  have hR0 : R 0 = q0 := by rw [hR]; rfl
  rw [← hR] at hP hD
  rw [← hR0]
  clear hR hR0
  refine lv_astore_n (lv' := [(1, .ref (R 0)), (0, .ref b)]) hx hb dL_law_7 rfl hl (by decide) rfl (fun ls hl => ?_)
  refine va_new (ci := 8) (fs := [.int 0, .int 0, .int 0, .null, .null, .null, .null, .int 0, .null, .null, .int 0, .null, .null, .null, .null, .null, .int 0, .null, .null, .null]) (C := RX8) (T := TX8) (N := 20) hx hb htl in_wsX80 tyX8 tyX8_ok hown (htl (.classLink RL 59 RX8) (by decide +kernel)) (htl (.instantiable RX8 20) (by decide +kernel)) (htl (.initialized RX8) (by decide +kernel)) hK hP hD hS hA rfl (fun j hj => by rcases j with _ | _ | _ | _ | _ | _ | _ | _ | _ | _ | _ | _ | _ | _ | _ | _ | _ | _ | _ | _ | j <;> first | rfl | omega) (Nat.le_of_ble_eq_true rfl) (Nat.le_of_ble_eq_true rfl) dL_law_8 (fun q8 H hP hD hS => ?_)
  refine lv_dup hx hb dL_law_11 rfl ?_
  refine cn_call (wr := HW cI cJ cII cJJ R u0H) (e0 := .inr (8, [.int 0, .int 0, .int 0, .null, .null, .null, .null, .int 0, .null, .null, .int 0, .null, .null, .null, .null, .null, .int 0, .null, .null, .null])) (q := q8) hP hD hS hA (va_runI (As := []) (rest := [.ref q8]) F (k_X8_init l dC dI cI cJ cZ cII cJJ q8 H.size) (cwI 0 hts gL_law_X8_init rfl rfl rfl (htl (.initialized RX8) (by decide +kernel)) (htl (.methodLink RL 61 yX8_init) (by decide +kernel)) (htl (.instanceMethod yX8_init) (by decide +kernel)) rfl (by decide +kernel) ⟨(Nat.le_of_ble_eq_true rfl), (Nat.le_of_ble_eq_true rfl)⟩) (cn_pre hK hao hP hD) rfl rfl hl.1 rfl (lv_room (Nat.le_of_ble_eq_true rfl)) dL_law_12 ⟨(Nat.le_of_ble_eq_true rfl), (Nat.le_of_ble_eq_true rfl)⟩) (fun u8 H locs hP hD hS => ?_)
  obtain ⟨R2, hR2⟩ : ∃ R2 : Nat → Nat, R2 = (fun k => ([q8, 0, 0, u8 0, u8 1, u8 2, u8 3, 0, u8 4, u8 5, 0, u8 6, u8 7, u8 8, u8 9, u8 10, 0, u8 11, u8 12, u8 13] : List Nat).getD k 0) := ⟨_, rfl⟩
  have eM : nwX8 cI cJ cZ cII cJJ q8 u8 = MW cI cJ cZ R2 u0M := by rw [hR2]; rfl
  have hR20 : R2 0 = q8 := by rw [hR2]; rfl
  rw [eM] at hP hD
  rw [← hR20]
  clear eM hR2 hR20
  refine lv_astore_n (lv' := [(2, .ref (R2 0)), (1, .ref (R 0)), (0, .ref b)]) hx hb dL_law_15 rfl hl (by decide) rfl (fun ls hl => ?_)
  refine lv_iconst (v := 1) hx hb dL_law_16 (by decide) ?_
  refine va_newa (atype := .long) (ty := .long) (N' := 1) (n := 1) (a0 := (1, .inr (.inl (fun _ => 0)))) hx hb (htl (.arrayClass .long) (by decide +kernel)) rfl hK hP hD hS hA (fun _ => rfl) (by decide) (by decide) (by decide) (Nat.le_of_ble_eq_true rfl) (Nat.le_of_ble_eq_true rfl) dL_law_17 (fun o cA H hK9 hP hD hS => ?_)
  have eA : cA = cJ := arr_same hK9 (k := 1) rfl (fun _ h => by cases h)
  subst eA
  refine lv_astore_n (lv' := [(3, .ref o), (2, .ref (R2 0)), (1, .ref (R 0)), (0, .ref b)]) hx hb dL_law_19 rfl hl (by decide) rfl (fun ls hl => ?_)
  refine lv_iconst (v := 0) hx hb dL_law_20 (by decide) ?_
  refine lv_istore (lv' := [(4, .int 0), (3, .ref o), (2, .ref (R2 0)), (1, .ref (R 0)), (0, .ref b)]) hx hb dL_law_21 hl (by decide) rfl (fun ls hl => ?_)
  have hP := va_P_perm (perm_e _ _ _) hP
  have hD := va_D_perm (perm_e _ _ _) hD
  exact law_loop LC hr hlocks R R2 o 512 0 u0H (fun _ => 0) u0M _ _ _ _ ls (by omega) (Nat.zero_le _) SY_0 (Nat.le_of_ble_eq_true rfl) (Nat.le_of_ble_eq_true rfl) hP hD hS (lv_sub hl [4, 3, 2, 1, 0] rfl)
