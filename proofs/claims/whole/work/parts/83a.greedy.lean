-- what is picked: always the lightest candidate that the picked do not make
def rgs (r : Nat → Nat) (n : Nat) : Nat → Prop := fun a => ∃ j, j < n ∧ a = r j
theorem rgs_mono {r : Nat → Nat} {n m y : Nat} (h : n ≤ m) (hy : spS (rgs r n) y) : spS (rgs r m) y := spS_in (fun _ ⟨j, j1, j2⟩ => spS_p ⟨j, by omega, j2⟩) hy
theorem rgs_up {r : Nat → Nat} {n x y m : Nat} (hm : m ≤ n) : spS (rgs (va_up r n x) m) y ↔ spS (rgs r m) y :=
  ⟨spS_in (fun _ ⟨j, j1, j2⟩ => spS_p ⟨j, j1, by rw [j2, up_ne (by omega)]⟩), spS_in (fun _ ⟨j, j1, j2⟩ => spS_p ⟨j, j1, by rw [j2, up_ne (by omega)]⟩)⟩
theorem bL1_none {lf lw : Nat → Nat} : ∀ {k}, bL1 lf lw k = none → ∀ i, i < k → lf i = 0
  | 0, _, i, hi => absurd hi (Nat.not_lt_zero _)
  | k + 1, h, i, hi => by
    by_cases q : lf k = 0
    · rw [bL1_same q] at h
      by_cases e : i = k
      · rw [e]; exact q
      · exact bL1_none h i (by omega)
    · simp only [bL1] at h
      rw [if_neg q] at h
      split at h
      · cases h
      · split at h <;> cases h
theorem bL1_min {lf lw : Nat → Nat} : ∀ {k b}, bL1 lf lw k = some b → ∀ i, i < k → lf i ≠ 0 → lw b ≤ lw i
  | 0, b, h, i, hi, _ => absurd hi (Nat.not_lt_zero _)
  | k + 1, b, h, i, hi, h0 => by
    by_cases q : lf k = 0
    · rw [bL1_same q] at h
      exact bL1_min h i (by rcases Nat.lt_or_ge i k with l | l; exact l; exact absurd (by rw [show i = k by omega]; exact q) h0) h0
    · cases hb : bL1 lf lw k with
      | none =>
        rw [bL1_first q hb] at h; cases h
        by_cases e : i = k
        · rw [e]; exact Nat.le_refl _
        · exact absurd (bL1_none hb i (by omega)) h0
      | some c =>
        by_cases l : lw k < lw c
        · rw [bL1_less q hb l] at h; cases h
          by_cases e : i = k
          · rw [e]; exact Nat.le_refl _
          · have := bL1_min hb i (by omega) h0; omega
        · rw [bL1_keep q hb l] at h; cases h
          by_cases e : i = k
          · rw [e]; omega
          · exact bL1_min hb i (by omega) h0
/-- what holds of the rings picked so far -/
def fI (cs lw : Nat → Nat) (cn : Nat) (s : FS) : Prop :=
  (∀ i, i < cn → spS (rgs s.2.1 s.1) (cs i ^^^ s.2.2.2 i)) ∧ (∀ i, i < cn → ∀ j, j < s.1 → (s.2.2.2 i).testBit (low (s.2.1 j)) = false) ∧ mrk s.2.1 s.1 ∧
  (∀ j, j < s.1 → ∃ b, b < cn ∧ spS (rgs s.2.1 j) (s.2.1 j ^^^ cs b) ∧ s.2.2.1 j = lw b ∧ ∀ i, i < cn → ¬ spS (rgs s.2.1 j) (cs i) → lw b ≤ lw i) ∧ ∀ i, i < cn → s.2.2.2 i < 2 ^ 40
theorem fI.zero {cs lw : Nat → Nat} {cn : Nat} {s : FS} (h : fI cs lw cn s) {i : Nat} (hi : i < cn) : s.2.2.2 i = 0 ↔ spS (rgs s.2.1 s.1) (cs i) := by
  have a := h.1 i hi
  constructor
  · intro e; rw [e, Nat.xor_zero] at a; exact a
  · intro hs
    have hl := spS_x hs a
    rw [← Nat.xor_assoc, Nat.xor_self, Nat.zero_xor] at hl
    exact mrk_zero (g := fun _ => True) h.2.2.1 (spS_in (fun _ ⟨j, j1, j2⟩ => spS_p ⟨j, j1, trivial, j2⟩) hl) (fun j hj _ => h.2.1 i hi j hj)
theorem fI.step {cs lw : Nat → Nat} {cn b : Nat} {s : FS} (h : fI cs lw cn s) (hb : bL1 s.2.2.2 lw cn = some b) : fI cs lw cn (s.1 + 1, va_up s.2.1 s.1 (s.2.2.2 b), va_up s.2.2.1 s.1 (lw b), stk s.2.2.2 (s.2.2.2 b)) := by
  obtain ⟨b1, b2⟩ := bL1_in hb
  obtain ⟨h1, h2, h3, h4, h5⟩ := h
  have hl64 : s.2.2.2 b < 2 ^ 64 := Nat.lt_trans (h5 b b1) (by decide)
  have hlow := low_ok b2 hl64
  refine ⟨fun i hi => ?_, fun i hi j hj => ?_, ⟨fun j hj => ?_, fun j k hjk hk => ?_⟩, fun j hj => ?_, fun i hi => stk_lt (h5 i hi) (h5 b b1)⟩
  · have a : spS (rgs (va_up s.2.1 s.1 (s.2.2.2 b)) (s.1 + 1)) (cs i ^^^ s.2.2.2 i) := rgs_mono (Nat.le_succ _) ((rgs_up (Nat.le_refl _)).mpr (h1 i hi))
    show spS _ (cs i ^^^ stk s.2.2.2 (s.2.2.2 b) i)
    unfold stk
    split
    · rw [← Nat.xor_assoc]; exact spS_x a (spS_p ⟨s.1, Nat.lt_succ_self _, up_self.symm⟩)
    · exact a
  · have hj : j < s.1 + 1 := hj
    show (stk s.2.2.2 (s.2.2.2 b) i).testBit (low (va_up s.2.1 s.1 (s.2.2.2 b) j)) = false
    unfold stk
    by_cases q : j = s.1
    · rw [q, up_self]
      split
      · rename_i hbit; rw [Nat.testBit_xor, hbit, hlow.1]; rfl
      · rename_i hbit; exact bool_f hbit
    · rw [up_ne q]
      split
      · rw [Nat.testBit_xor, h2 i hi j (by omega), h2 b b1 j (by omega)]; rfl
      · exact h2 i hi j (by omega)
  · have hj : j < s.1 + 1 := hj
    show va_up s.2.1 s.1 (s.2.2.2 b) j ≠ 0 ∧ va_up s.2.1 s.1 (s.2.2.2 b) j < 2 ^ 64
    by_cases q : j = s.1
    · rw [q, up_self]; exact ⟨b2, hl64⟩
    · rw [up_ne q]; exact h3.1 j (by omega)
  · have hk : k < s.1 + 1 := hk
    show (va_up s.2.1 s.1 (s.2.2.2 b) k).testBit (low (va_up s.2.1 s.1 (s.2.2.2 b) j)) = false
    rw [up_ne (show j ≠ s.1 by omega)]
    by_cases q : k = s.1
    · rw [q, up_self]; exact h2 b b1 j (by omega)
    · rw [up_ne q]; exact h3.2 j k hjk (by omega)
  · have hj : j < s.1 + 1 := hj
    show ∃ b0, b0 < cn ∧ spS (rgs (va_up s.2.1 s.1 (s.2.2.2 b)) j) (va_up s.2.1 s.1 (s.2.2.2 b) j ^^^ cs b0) ∧ va_up s.2.2.1 s.1 (lw b) j = lw b0 ∧ ∀ i, i < cn → ¬ spS (rgs (va_up s.2.1 s.1 (s.2.2.2 b)) j) (cs i) → lw b0 ≤ lw i
    by_cases q : j = s.1
    · subst q
      refine ⟨b, b1, ?_, up_self, fun i hi hn => bL1_min hb i hi (fun e => hn ?_)⟩
      · rw [up_self, rgs_up (Nat.le_refl _), Nat.xor_comm]; exact h1 b b1
      · exact (rgs_up (Nat.le_refl _)).mpr ((fI.zero ⟨h1, h2, h3, h4, h5⟩ hi).mp e)
    · obtain ⟨b0, c1, c2, c3, c4⟩ := h4 j (by omega)
      refine ⟨b0, c1, ?_, by rw [up_ne q]; exact c3, fun i hi hn => c4 i hi (fun h => hn ((rgs_up (by omega)).mpr h))⟩
      rw [up_ne q, rgs_up (by omega)]; exact c2
theorem fndR_ok {cs lw : Nat → Nat} {cn : Nat} : ∀ n (s : FS), fI cs lw cn s → fI cs lw cn (fndR lw cn n s) ∧ (fndR lw cn n s).1 ≤ s.1 + n ∧ ((∀ i, i < cn → (fndR lw cn n s).2.2.2 i = 0) ∨ (fndR lw cn n s).1 = s.1 + n)
  | 0, s, h => ⟨h, Nat.le_refl _, .inr rfl⟩
  | n + 1, s, h => by
    cases hb : bL1 s.2.2.2 lw cn with
    | none => rw [fndR_none hb]; exact ⟨h, by omega, .inl (bL1_none hb)⟩
    | some b =>
      rw [fndR_some hb]
      obtain ⟨a, b, c⟩ := fndR_ok n _ (h.step hb)
      refine ⟨a, by have : _ ≤ s.1 + 1 + n := b; omega, c.imp id (fun e => ?_)⟩
      rw [e]; show s.1 + 1 + n = _; omega
theorem fnd_ok {fr to wt : Nat → Nat} {nv ne : Nat} (hm : ne ≤ 40) : fI (gatA fr to wt nv ne nv).2.1 (gatA fr to wt nv ne nv).2.2 (gatA fr to wt nv ne nv).1 (fnd fr to wt nv ne) ∧ (fnd fr to wt nv ne).1 ≤ 14 ∧ ((∀ i, i < (gatA fr to wt nv ne nv).1 → (fnd fr to wt nv ne).2.2.2 i = 0) ∨ (fnd fr to wt nv ne).1 = 14) := by
  have h0 : fI (gatA fr to wt nv ne nv).2.1 (gatA fr to wt nv ne nv).2.2 (gatA fr to wt nv ne nv).1 (0, fun _ => 0, fun _ => 0, (gatA fr to wt nv ne nv).2.1) :=
    ⟨fun i _ => by show spS _ (_ ^^^ _); rw [Nat.xor_self]; exact spS_0 _, fun i _ j hj => absurd hj (Nat.not_lt_zero _), ⟨fun j hj => absurd hj (Nat.not_lt_zero _), fun j k _ hk => absurd hk (Nat.not_lt_zero _)⟩, fun j hj => absurd hj (Nat.not_lt_zero _), fun i hi => by
      obtain ⟨-, v, e, h1, h2, h3, h4, h5⟩ := (gatA_ok (fr := fr) (to := to) (wt := wt) (ne := ne) nv (Nat.le_refl _)).1 i hi
      show (gatA fr to wt nv ne nv).2.1 i < 2 ^ 40
      rw [h4]
      exact Nat.xor_lt_two_pow (Nat.xor_lt_two_pow (sek_lt hm _) (sek_lt hm _)) (Nat.pow_lt_pow_right (by omega) (by omega))⟩
  have := fndR_ok 14 _ h0
  exact ⟨this.1, this.2.1, this.2.2⟩
theorem fI.out {cs lw : Nat → Nat} {cn j : Nat} {s : FS} (h : fI cs lw cn s) (hj : j < s.1) : ¬ spS (rgs s.2.1 j) (s.2.1 j) := fun hs => by
  have := mrk_zero (n := j) (g := fun _ => True) ⟨fun i hi => h.2.2.1.1 i (by omega), fun i k a b => h.2.2.1.2 i k a (by omega)⟩ (spS_in (fun _ ⟨i, i1, i2⟩ => spS_p ⟨i, i1, trivial, i2⟩) hs) (fun i hi _ => h.2.2.1.2 i j hi hj)
  exact (h.2.2.1.1 j hj).1 this
theorem fI.mono {cs lw : Nat → Nat} {cn j k : Nat} {s : FS} (h : fI cs lw cn s) (hjk : j ≤ k) (hk : k < s.1) : s.2.2.1 j ≤ s.2.2.1 k := by
  obtain ⟨b, b1, b2, b3, b4⟩ := h.2.2.2.1 j (by omega)
  obtain ⟨c, c1, c2, c3, c4⟩ := h.2.2.2.1 k hk
  rw [b3, c3]
  refine b4 c c1 (fun hs => h.out hk ?_)
  have := spS_x c2 (rgs_mono hjk hs)
  rw [Nat.xor_assoc, Nat.xor_self, Nat.xor_zero] at this; exact this
/-- all that is even and what is picked -/
theorem fnd_all {fr to wt : Nat → Nat} {nv ne : Nat} (hm : ne ≤ 40) (hn : nv ≤ 16) (hN : ∀ e, e < ne → fr e < nv ∧ to e < nv) (hw : ∀ e, e < ne → wt e ≤ 1000000000) (hd : dmA fr to ne ≤ 14) : ∀ i, i < (gatA fr to wt nv ne nv).1 → spS (rgs (fnd fr to wt nv ne).2.1 (fnd fr to wt nv ne).1) ((gatA fr to wt nv ne nv).2.1 i) := by
  obtain ⟨h1, h2, h3⟩ := fnd_ok (fr := fr) (to := to) (wt := wt) (nv := nv) (ne := ne) hm
  intro i hi
  rcases h3 with h3 | h3
  · exact (h1.zero hi).mp (h3 i hi)
  · refine Classical.byContradiction (fun hnot => ?_)
    have ev : ∀ y W, caW fr to wt nv ne W y → spS (fun a => ∃ i, i < 14 ∧ a = rgA fr to ne i) y := fun y W hy => by
      obtain ⟨e1, e2, e3⟩ := caW_e hm hn hN hw hy
      exact spS_in (fun a ⟨k, k1, k2⟩ => spS_p ⟨k, Nat.lt_of_lt_of_le k1 hd, k2⟩) (jOK_sp (jA (by omega) hN) e1 (fun e he => ⟨e2 e he, by rw [fl_bit]; simp [e2 e he]⟩))
    have evc : ∀ i, i < (gatA fr to wt nv ne nv).1 → spS (fun a => ∃ i, i < 14 ∧ a = rgA fr to ne i) ((gatA fr to wt nv ne nv).2.1 i) := fun i hi => ev _ _ ((gatA_ok nv (Nat.le_refl _)).1 i hi).2
    have evr : ∀ N j, j < N → j < 14 → spS (fun a => ∃ i, i < 14 ∧ a = rgA fr to ne i) ((fnd fr to wt nv ne).2.1 j) := by
      intro N; induction N with
      | zero => intro j hj; exact absurd hj (Nat.not_lt_zero _)
      | succ N ih =>
        intro j hj hj2
        obtain ⟨b, b1, b2, -, -⟩ := h1.2.2.2.1 j (by omega)
        have a := spS_in (fun y ⟨k, k1, k2⟩ => by rw [k2]; exact ih k (by omega) (by omega)) b2
        have := spS_x a (evc b b1)
        rw [Nat.xor_assoc, Nat.xor_self, Nat.xor_zero] at this; exact this
    refine steinitz (k := 14) (f := va_up (fnd fr to wt nv ne).2.1 14 ((gatA fr to wt nv ne nv).2.1 i)) (p := rgA fr to ne) (ind_of (fun j hj hs => ?_)) (fun j hj => ?_)
    · have hs : spS (rgs (va_up (fnd fr to wt nv ne).2.1 14 ((gatA fr to wt nv ne nv).2.1 i)) j) (va_up (fnd fr to wt nv ne).2.1 14 ((gatA fr to wt nv ne nv).2.1 i) j) := hs
      rw [rgs_up (by omega)] at hs
      by_cases q : j = 14
      · rw [q, up_self] at hs; rw [h3] at hnot; exact hnot hs
      · rw [up_ne q] at hs; exact h1.out (by omega) hs
    · by_cases q : j = 14
      · rw [q, up_self]; exact evc i hi
      · rw [up_ne q]; exact evr (j + 1) j (by omega) (by omega)
