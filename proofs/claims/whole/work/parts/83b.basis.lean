-- the weights of a lightest basis; what belongs to one
def evL (fr to wt : Nat → Nat) (m W : Nat) (y : Nat) : Prop := (∀ t, bd fr to y t = false) ∧ (∀ e, y.testBit e = true → e < m) ∧ wsum wt y m < W
theorem fnd_fl {fr to wt : Nat → Nat} {nv ne W : Nat} (hm : ne ≤ 40) (hn : nv ≤ 16) (hN : ∀ e, e < ne → fr e < nv ∧ to e < nv) (hw : ∀ e, e < ne → wt e ≤ 1000000000) : ∀ N j, j < N → j < (fnd fr to wt nv ne).1 → (fnd fr to wt nv ne).2.2.1 j < W → spS (evL fr to wt ne W) ((fnd fr to wt nv ne).2.1 j) := by
  obtain ⟨h1, -, -⟩ := fnd_ok (fr := fr) (to := to) (wt := wt) (nv := nv) (ne := ne) hm
  intro N; induction N with
  | zero => intro j hj; exact absurd hj (Nat.not_lt_zero _)
  | succ N ih =>
    intro j hj hj2 hl
    obtain ⟨b, b1, b2, b3, -⟩ := h1.2.2.2.1 j hj2
    have a := spS_in (fun y ⟨k, k1, k2⟩ => by rw [k2]; exact ih k (by omega) (by omega) (Nat.lt_of_le_of_lt (h1.mono (by omega) hj2) hl)) b2
    obtain ⟨e1, e2, e3⟩ := caW_e hm hn hN hw ((gatA_ok nv (Nat.le_refl _)).1 b b1).2
    have c : spS (evL fr to wt ne W) ((gatA fr to wt nv ne nv).2.1 b) := spS_p ⟨e1, e2, by omega⟩
    have := spS_x a c
    rw [Nat.xor_assoc, Nat.xor_self, Nat.xor_zero] at this; exact this
/-- what is lighter than W is made by the rings picked that are -/
theorem evL_fl {fr to wt : Nat → Nat} {nv ne W t : Nat} (hm : ne ≤ 40) (hn : nv ≤ 16) (hN : ∀ e, e < ne → fr e < nv ∧ to e < nv) (hw : ∀ e, e < ne → wt e ≤ 1000000000) (hc : ∀ i, i < (gatA fr to wt nv ne nv).1 → (gatA fr to wt nv ne nv).2.2 i < W → spS (rgs (fnd fr to wt nv ne).2.1 t) ((gatA fr to wt nv ne nv).2.1 i)) {y : Nat} (hy : evL fr to wt ne W y) : spS (rgs (fnd fr to wt nv ne).2.1 t) y := by
  obtain ⟨y1, y2, y3⟩ := hy
  have hW : wsum wt y ne ≤ W - 1 := by omega
  refine spS_in (fun a ha => ?_) (eW_sp hm hn hN hw (sz y ne) y (Nat.le_refl _) ⟨y1, y2, hW⟩)
  rcases caW_list ha with q | ⟨i, i1, i2, i3⟩
  · rw [q]; exact spS_0 _
  · rw [← i2]; exact hc i i1 (by omega)
theorem fnd_pre {fr to wt : Nat → Nat} {nv ne W t : Nat} (hm : ne ≤ 40) (ht : t < (fnd fr to wt nv ne).1) (hW : W ≤ (fnd fr to wt nv ne).2.2.1 t) : ∀ i, i < (gatA fr to wt nv ne nv).1 → (gatA fr to wt nv ne nv).2.2 i < W → spS (rgs (fnd fr to wt nv ne).2.1 t) ((gatA fr to wt nv ne nv).2.1 i) := by
  obtain ⟨h1, -, -⟩ := fnd_ok (fr := fr) (to := to) (wt := wt) (nv := nv) (ne := ne) hm
  intro i hi hl
  obtain ⟨b, b1, b2, b3, b4⟩ := h1.2.2.2.1 t ht
  refine Classical.byContradiction (fun hn => ?_)
  have := b4 i hi hn
  omega
theorem fnd_size {fr to wt : Nat → Nat} {nv ne : Nat} (hm : ne ≤ 40) (hn : nv ≤ 16) (hN : ∀ e, e < ne → fr e < nv ∧ to e < nv) (hw : ∀ e, e < ne → wt e ≤ 1000000000) (hd : dmA fr to ne ≤ 14) : dmA fr to ne ≤ (fnd fr to wt nv ne).1 := by
  have hall := fnd_all hm hn hN hw hd
  refine Nat.le_of_not_lt (fun hl => ?_)
  have hj := jA (by omega : ne ≤ 64) hN
  have hid := jOK_ind hj
  refine steinitz (k := (fnd fr to wt nv ne).1) (f := rgA fr to ne) (p := (fnd fr to wt nv ne).2.1) (ind_of (fun j h => ind_not hid (show j < dmA fr to ne by omega))) (fun j h => ?_)
  obtain ⟨-, -, c, d, -⟩ := hj.2.2.2.2.1 j (show j < dmA fr to ne by omega)
  exact evL_fl (W := wsum wt (rgA fr to ne j) ne + 1) hm hn hN hw (fun i hi _ => hall i hi) ⟨c, fun e he => (d e he).1, by omega⟩
theorem basis_tie {fr to wt : Nat → Nat} {nv ne i : Nat} {pk : Nat → Nat} (hm : ne ≤ 40) (hn : nv ≤ 16) (hN : ∀ e, e < ne → fr e < nv ∧ to e < nv) (hw : ∀ e, e < ne → wt e ≤ 1000000000) (hd : dmA fr to ne ≤ 14) (hi : i < dmA fr to ne) (hg : grd (fun c => wsum wt (elA fr to ne c) ne) (2 ^ dmA fr to ne) pk (i + 1)) : i < (fnd fr to wt nv ne).1 ∧ wsum wt (elA fr to ne (pk i)) ne = (fnd fr to wt nv ne).2.2.1 i := by
  obtain ⟨h1, -, -⟩ := fnd_ok (fr := fr) (to := to) (wt := wt) (nv := nv) (ne := ne) hm
  have hsz := fnd_size (wt := wt) hm hn hN hw hd
  have hil : i < (fnd fr to wt nv ne).1 := by omega
  have h64 : ne ≤ 64 := by omega
  refine ⟨hil, Nat.le_antisymm ?_ ?_⟩
  · -- the reference's is not heavier
    refine Nat.le_of_not_lt (fun hl => ?_)
    refine steinitz (k := i) (f := (fnd fr to wt nv ne).2.1) (p := fun j => elA fr to ne (pk j)) (ind_of (fun j h hs => h1.out (by omega) hs)) (fun j hj => ?_)
    refine spS_in (fun y hy => ?_) (fnd_fl (W := wsum wt (elA fr to ne (pk i)) ne) hm hn hN hw (j + 1) j (by omega) (by omega) (Nat.lt_of_le_of_lt (h1.mono (by omega) hil) hl))
    obtain ⟨y1, y2, y3⟩ := hy
    have hyl : y < 2 ^ ne := Nat.lt_pow_two_of_testBit _ (fun e he => bool_f (fun h => by have := y2 e h; omega))
    have ey := elA_code h64 hN hyl ((evn_bd h64 hN hyl).mpr y1)
    have hsp : spS (fun a => ∃ j, j < i ∧ a = pk j) (cdA fr to ne y) := by
      refine Classical.byContradiction (fun hno => ?_)
      have := (hg i (Nat.lt_succ_self _)).2.2 (cdA fr to ne y) (nb_lt _ _) hno
      have this : wsum wt (elA fr to ne (pk i)) ne ≤ wsum wt (elA fr to ne (cdA fr to ne y)) ne := this
      rw [ey] at this; omega
    have := spS_el (fr := fr) (to := to) (ne := ne) hsp
    rw [ey] at this
    exact spS_in (fun a ⟨c, ⟨k, k1, k2⟩, hc⟩ => spS_p ⟨k, k1, by rw [hc, k2]⟩) this
  · refine Nat.le_of_not_lt (fun hl => ?_)
    have hpl : ∀ j, j < i + 1 → pk j < 2 ^ dmA fr to ne := fun j hj => (hg j hj).1
    refine steinitz (k := i) (f := fun j => elA fr to ne (pk j)) (p := (fnd fr to wt nv ne).2.1) (ind_of (fun j hj hs => ?_)) (fun j hj => ?_)
    · refine (hg j hj).2.1 (spS_le (P := fun a => ∃ i, i < j ∧ a = pk i) h64 hN (fun a ⟨k, k1, k2⟩ => by rw [k2]; exact hpl k (by omega)) (hpl j hj) ?_)
      exact spS_in (fun a ⟨k, k1, k2⟩ => spS_p ⟨pk k, ⟨k, k1, rfl⟩, k2⟩) hs
    · have hwj : wsum wt (elA fr to ne (pk j)) ne ≤ wsum wt (elA fr to ne (pk i)) ne := by
        refine (hg j hj).2.2 (pk i) (hpl i (by omega)) (fun hs => (hg i (Nat.lt_succ_self _)).2.1 ?_)
        exact spS_in (fun a ⟨k, k1, k2⟩ => spS_p ⟨k, by omega, k2⟩) hs
      have hel := elA_lt (c := pk j) h64 hN (Nat.le_refl _)
      exact evL_fl (W := (fnd fr to wt nv ne).2.2.1 i) hm hn hN hw (fnd_pre hm hil (Nat.le_refl _)) ⟨(evn_bd h64 hN hel).mp (elA_even h64 hN), fun e he => Nat.lt_of_not_le (fun q => by rw [Nat.testBit_lt_two_pow (Nat.lt_of_lt_of_le hel (Nat.pow_le_pow_right (by omega) q))] at he; cases he), by omega⟩
theorem belongs_tie {fr to wt : Nat → Nat} {nv ne z : Nat} (hm : ne ≤ 40) (hn : nv ≤ 16) (hN : ∀ e, e < ne → fr e < nv ∧ to e < nv) (hw : ∀ e, e < ne → wt e ≤ 1000000000) (hd : dmA fr to ne ≤ 14) (hz : z < 2 ^ ne) (he : evn fr to nv ne z) :
    isl (fnd fr to wt nv ne) (wsum wt z ne) (fnd fr to wt nv ne).1 z = 0 ↔ spS (fun a => (1 ≤ a ∧ a < 2 ^ dmA fr to ne) ∧ wsum wt (elA fr to ne a) ne < wsum wt (elA fr to ne (cdA fr to ne z)) ne) (cdA fr to ne z) := by
  obtain ⟨h1, -, -⟩ := fnd_ok (fr := fr) (to := to) (wt := wt) (nv := nv) (ne := ne) hm
  have hall := fnd_all hm hn hN hw hd
  have h64 : ne ≤ 64 := by omega
  have ez := elA_code h64 hN hz he
  rw [isl_iff h1.2.2.1, ez]
  -- between the sets that are lighter and their codes
  have key : spS (evL fr to wt ne (wsum wt z ne)) z ↔ spS (fun a => (1 ≤ a ∧ a < 2 ^ dmA fr to ne) ∧ wsum wt (elA fr to ne a) ne < wsum wt z ne) (cdA fr to ne z) := by
    constructor
    · intro h
      refine spS_le h64 hN (fun a ha => ha.1.2) (nb_lt _ _) ?_
      rw [ez]
      refine spS_in (fun y ⟨y1, y2, y3⟩ => ?_) h
      have hyl : y < 2 ^ ne := Nat.lt_pow_two_of_testBit _ (fun e he => bool_f (fun h => by have := y2 e h; omega))
      have ey := elA_code h64 hN hyl ((evn_bd h64 hN hyl).mpr y1)
      by_cases q : cdA fr to ne y = 0
      · rw [← ey, q, show elA fr to ne 0 = 0 from cb_0 _ _]; exact spS_0 _
      · exact spS_p ⟨cdA fr to ne y, ⟨⟨by omega, nb_lt _ _⟩, by rw [ey]; exact y3⟩, ey.symm⟩
    · intro h
      have := spS_el (fr := fr) (to := to) (ne := ne) h
      rw [ez] at this
      refine spS_in (fun y ⟨a, a1, a2⟩ => ?_) this
      have hel := elA_lt (c := a) h64 hN (Nat.le_refl _)
      rw [a2]
      exact spS_p ⟨(evn_bd h64 hN hel).mp (elA_even h64 hN), fun e he => Nat.lt_of_not_le (fun q => by rw [Nat.testBit_lt_two_pow (Nat.lt_of_lt_of_le hel (Nat.pow_le_pow_right (by omega) q))] at he; cases he), a1.2⟩
  rw [← key]
  constructor
  · exact spS_in (fun y ⟨j, j1, j2, j3⟩ => by rw [j3]; exact fnd_fl hm hn hN hw (j + 1) j (Nat.lt_succ_self _) j1 j2)
  · refine spS_in (fun y hy => ?_)
    -- the first ring that is not lighter
    by_cases c : ∃ t, t < (fnd fr to wt nv ne).1 ∧ wsum wt z ne ≤ (fnd fr to wt nv ne).2.2.1 t
    · have hmin : ∀ N t, t < N → t < (fnd fr to wt nv ne).1 → wsum wt z ne ≤ (fnd fr to wt nv ne).2.2.1 t → ∃ t, t < (fnd fr to wt nv ne).1 ∧ wsum wt z ne ≤ (fnd fr to wt nv ne).2.2.1 t ∧ ∀ j, j < t → (fnd fr to wt nv ne).2.2.1 j < wsum wt z ne := by
        intro N; induction N with
        | zero => intro t ht; exact absurd ht (Nat.not_lt_zero _)
        | succ N ih =>
          intro t ht t1 t2
          by_cases q : ∃ j, j < t ∧ wsum wt z ne ≤ (fnd fr to wt nv ne).2.2.1 j
          · obtain ⟨j, j1, j2⟩ := q; exact ih j (by omega) (by omega) j2
          · exact ⟨t, t1, t2, fun j hj => Nat.lt_of_not_le (fun h => q ⟨j, hj, h⟩)⟩
      obtain ⟨t0, a, b⟩ := c
      obtain ⟨t, t1, t2, t3⟩ := hmin (t0 + 1) t0 (Nat.lt_succ_self _) a b
      exact spS_in (fun x ⟨j, j1, j2⟩ => spS_p ⟨j, by omega, t3 j j1, j2⟩) (evL_fl hm hn hN hw (fnd_pre hm t1 t2) hy)
    · exact spS_in (fun x ⟨j, j1, j2⟩ => spS_p ⟨j, j1, Nat.lt_of_not_le (fun h => c ⟨j, j1, h⟩), j2⟩) (evL_fl hm hn hN hw (fun i hi _ => hall i hi) hy)
