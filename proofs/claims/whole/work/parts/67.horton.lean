-- the least cycle through an edge; candidates span
theorem thr_lb {fr to wt : Nat → Nat} {N m x z : Nat} (hm : m ≤ 40) (hN16 : N ≤ 16) (hN : ∀ e, e < m → fr e < N ∧ to e < N) (hw : ∀ e, e < m → wt e ≤ 1000000000) (hxm : x < m) (hz : ∀ t, bd fr to z t = false) (hzm : ∀ e, z.testBit e = true → e < m) (hx : z.testBit x = true) :
    (sek fr to wt x m N (fr x)).1 (to x) < 2 ^ 60 ∧ (sek fr to wt x m N (fr x)).1 (to x) + wt x ≤ wsum wt z m := by
  have hfx := sek_fix (x := x) (wt := wt) hN (hN x hxm).1
  have hb' : ∀ e, (z ^^^ 2 ^ x).testBit e = true → e < m ∧ e ≠ x := fun e he => by
    rw [Nat.testBit_xor, pow_bit] at he
    by_cases q : x = e
    · subst q; rw [hx] at he; simp at he
    · rw [bne_of q, Bool.xor_false] at he; exact ⟨hzm e he, fun h => q h.symm⟩
  have hbd' : ∀ v, bd fr to (z ^^^ 2 ^ x) v = ((fr x == v) ^^ (to x == v)) := fun v => by rw [bd_xor, hz v, bd_pow (by omega), Bool.false_xor]
  have hcut : ∀ S : Nat → Bool, xs m (fun e => (z ^^^ 2 ^ x).testBit e && (S (fr e) ^^ S (to e))) = (S (fr x) ^^ S (to x)) := fun S => by
    rw [← cr_trim (by omega) (fun e he => (hb' e he).1)]
    exact cr_ends (N := N) (fun e he => hN e (hb' e he).1) (hN x hxm).1 (hN x hxm).2 hbd' S
  have h0 : (sek fr to wt x m N (fr x)).1 (fr x) = 0 := sek_a
  have hreach : (sek fr to wt x m N (fr x)).1 (to x) < 2 ^ 60 := by
    refine Classical.byContradiction (fun hn => ?_)
    have h1 := hcut (fun v => decide ((sek fr to wt x m N (fr x)).1 v < 2 ^ 60))
    rw [xs_false] at h1
    · rw [h0, decide_eq_false hn] at h1; simp at h1
    · intro e he
      cases hbit : (z ^^^ 2 ^ x).testBit e with
      | false => rfl
      | true =>
        have hf := hfx e he (hb' e hbit).2
        have hwe := hw e he
        have n1 := sek_near (fr := fr) (to := to) (x := x) (a := fr x) hm hN16 hw (fr e)
        have n2 := sek_near (fr := fr) (to := to) (x := x) (a := fr x) hm hN16 hw (to e)
        have : ((sek fr to wt x m N (fr x)).1 (fr e) < 2 ^ 60 ↔ (sek fr to wt x m N (fr x)).1 (to e) < 2 ^ 60) := by omega
        by_cases q : (sek fr to wt x m N (fr x)).1 (fr e) < 2 ^ 60
        · rw [decide_eq_true q, decide_eq_true (this.mp q)]; rfl
        · rw [decide_eq_false q, decide_eq_false (fun h => q (this.mpr h))]; rfl
  refine ⟨hreach, ?_⟩
  have hge := sm_ge (D := (sek fr to wt x m N (fr x)).1 (to x)) (f := fun t => cn fr to (sek fr to wt x m N (fr x)).1 (z ^^^ 2 ^ x) t m) (c := 1) (fun t ht => by
    refine cn_odd m ?_
    have := hcut (fun v => decide ((sek fr to wt x m N (fr x)).1 v ≤ t))
    rw [this, h0, decide_eq_true (Nat.zero_le t), decide_eq_false (by omega)]; rfl)
  have hle := sm_cn (fr := fr) (to := to) (d := (sek fr to wt x m N (fr x)).1) (wt := wt) (z := z ^^^ 2 ^ x) ((sek fr to wt x m N (fr x)).1 (to x)) m (fun e he hbit => hfx e he (hb' e hbit).2)
  have hout := wsum_out (wt := wt) hx m
  rw [if_pos hxm] at hout
  omega
theorem thr_ub {fr to wt : Nat → Nat} {N m x : Nat} (hm : m ≤ 40) (hxm : x < m) (hr : (sek fr to wt x m N (fr x)).1 (to x) < 2 ^ 60) : ∃ z, (∀ t, bd fr to z t = false) ∧ (∀ e, z.testBit e = true → e < m) ∧ z.testBit x = true ∧ wsum wt z m ≤ (sek fr to wt x m N (fr x)).1 (to x) + wt x := by
  obtain ⟨h1, h2, h3⟩ := (wI_sek (fr := fr) (to := to) (wt := wt) (x := x) (m := m) (a := fr x) (N := N) (by omega) (to x)).2 hr
  refine ⟨(sek fr to wt x m N (fr x)).2 (to x) ^^^ 2 ^ x, fun t => ?_, fun e he => ?_, ?_, ?_⟩
  · rw [bd_xor, h1 t, bd_pow (by omega)]; cases (fr x == t) <;> cases (to x == t) <;> rfl
  · rw [Nat.testBit_xor, pow_bit] at he
    by_cases q : x = e
    · rw [← q]; exact hxm
    · rw [bne_of q, Bool.xor_false] at he; exact (h2 e he).1
  · rw [Nat.testBit_xor, Nat.testBit_two_pow_self, bool_f (fun h => (h2 x h).2 rfl)]; rfl
  · have := wsum_xor (wt := wt) (s := (sek fr to wt x m N (fr x)).2 (to x)) (t := 2 ^ x) m
    rw [wsum_pow, if_pos hxm] at this
    omega
/-- the candidates told not above W -/
def caW (fr to wt : Nat → Nat) (N m W : Nat) (y : Nat) : Prop := ∃ v e, v < N ∧ e < m ∧ (sek fr to wt m m N v).1 (fr e) < 2 ^ 60 ∧ y = gcl (sek fr to wt m m N v) (fr e) (to e) e ∧ (sek fr to wt m m N v).1 (fr e) + (sek fr to wt m m N v).1 (to e) + wt e ≤ W
/-- the even sets not above W -/
def eW (fr to wt : Nat → Nat) (m W : Nat) (y : Nat) : Prop := (∀ t, bd fr to y t = false) ∧ (∀ e, y.testBit e = true → e < m) ∧ wsum wt y m ≤ W
theorem sek_both {fr to wt : Nat → Nat} {N m v e : Nat} (hm : m ≤ 40) (hN16 : N ≤ 16) (hN : ∀ e, e < m → fr e < N ∧ to e < N) (hw : ∀ e, e < m → wt e ≤ 1000000000) (hv : v < N) (he : e < m) : ((sek fr to wt m m N v).1 (fr e) < 2 ^ 60 ↔ (sek fr to wt m m N v).1 (to e) < 2 ^ 60) := by
  have hf := sek_fix (x := m) (wt := wt) hN hv e he (by omega)
  have hwe := hw e he
  have n1 := sek_near (fr := fr) (to := to) (x := m) (a := v) hm hN16 hw (fr e)
  have n2 := sek_near (fr := fr) (to := to) (x := m) (a := v) hm hN16 hw (to e)
  omega
theorem caW_e {fr to wt : Nat → Nat} {N m W y : Nat} (hm : m ≤ 40) (hN16 : N ≤ 16) (hN : ∀ e, e < m → fr e < N ∧ to e < N) (hw : ∀ e, e < m → wt e ≤ 1000000000) (h : caW fr to wt N m W y) : eW fr to wt m W y := by
  obtain ⟨v, e, hv, he, hr, rfl, hW⟩ := h
  have hI := wI_sek (fr := fr) (to := to) (wt := wt) (x := m) (m := m) (a := v) (N := N) (by omega)
  obtain ⟨a1, a2, a3⟩ := (hI (fr e)).2 hr
  obtain ⟨b1, b2, b3⟩ := (hI (to e)).2 ((sek_both hm hN16 hN hw hv he).mp hr)
  refine ⟨fun t => ?_, fun i hi => ?_, ?_⟩
  · show bd fr to (_ ^^^ _ ^^^ 2 ^ e) t = false
    rw [bd_xor, bd_xor, a1 t, b1 t, bd_pow (by omega)]
    cases (v == t) <;> cases (fr e == t) <;> cases (to e == t) <;> rfl
  · have hi : ((sek fr to wt m m N v).2 (fr e) ^^^ (sek fr to wt m m N v).2 (to e) ^^^ 2 ^ e).testBit i = true := hi
    rw [Nat.testBit_xor, Nat.testBit_xor, pow_bit] at hi
    by_cases q1 : ((sek fr to wt m m N v).2 (fr e)).testBit i = true
    · exact (a2 i q1).1
    · by_cases q2 : ((sek fr to wt m m N v).2 (to e)).testBit i = true
      · exact (b2 i q2).1
      · rw [bool_f q1, bool_f q2] at hi
        have : e = i := by simpa using hi
        rw [← this]; exact he
  · have h1 := wsum_xor (wt := wt) (s := (sek fr to wt m m N v).2 (fr e) ^^^ (sek fr to wt m m N v).2 (to e)) (t := 2 ^ e) m
    have h2 := wsum_xor (wt := wt) (s := (sek fr to wt m m N v).2 (fr e)) (t := (sek fr to wt m m N v).2 (to e)) m
    rw [wsum_pow, if_pos he] at h1
    show wsum wt ((sek fr to wt m m N v).2 (fr e) ^^^ (sek fr to wt m m N v).2 (to e) ^^^ 2 ^ e) m ≤ W
    omega
/-- of a set the edges that begin in S -/
def inS (fr : Nat → Nat) (S : Nat → Bool) (y m : Nat) : Nat := nb (fun e => y.testBit e && S (fr e)) m
theorem inS_bit {fr : Nat → Nat} {S : Nat → Bool} {y m e : Nat} (he : e < m) : (inS fr S y m).testBit e = (y.testBit e && S (fr e)) := by unfold inS; rw [nb_bit]; simp [he]
theorem inS_lt {fr : Nat → Nat} {S : Nat → Bool} {y m e : Nat} (h : (inS fr S y m).testBit e = true) : e < m := by
  unfold inS at h; rw [nb_bit] at h; simp at h; exact h.1
theorem inS_bd {fr to : Nat → Nat} {S : Nat → Bool} {y m : Nat} (hm : m ≤ 64) (hy : ∀ e, y.testBit e = true → e < m) (hz : ∀ t, bd fr to y t = false) (hc : ∀ e, y.testBit e = true → S (fr e) = S (to e)) (t : Nat) : bd fr to (inS fr S y m) t = false := by
  have h1 : bd fr to (inS fr S y m) t = (S t && bd fr to y t) := by
    unfold bd
    rw [← xs_and]
    refine xs_congr (fun e _ => ?_)
    cases hb : y.testBit e with
    | false =>
      have : (inS fr S y m).testBit e = false := bool_f (fun h => by rw [inS_bit (inS_lt h), hb] at h; cases h)
      rw [this]; simp
    | true =>
      rw [inS_bit (hy e hb), hb, Bool.true_and, Bool.true_and]
      by_cases q1 : fr e = t <;> by_cases q2 : to e = t
      · rw [show (fr e == t) = true by simp [q1], show (to e == t) = true by simp [q2]]; cases S (fr e) <;> cases S t <;> rfl
      · rw [q1]
      · rw [hc e hb, q2]
      · rw [bne_of q1, bne_of q2]; cases S (fr e) <;> cases S t <;> rfl
  rw [h1, hz t, Bool.and_false]
theorem wsum_mono {wt : Nat → Nat} {s t : Nat} : ∀ m, (∀ e, e < m → s.testBit e = true → t.testBit e = true) → wsum wt s m ≤ wsum wt t m
  | 0, _ => Nat.le_refl _
  | m + 1, h => by
    have ih := wsum_mono (wt := wt) m (fun e he => h e (by omega))
    simp only [wsum]
    cases hs : s.testBit m with
    | false => simp; omega
    | true => rw [h m (by omega) hs]; simp; exact ih
theorem cn_par {fr to d : Nat → Nat} {z t : Nat} : ∀ m, xs m (fun e => z.testBit e && (decide (d (fr e) ≤ t) ^^ decide (d (to e) ≤ t))) = (cn fr to d z t m % 2 == 1)
  | 0 => rfl
  | m + 1 => by
    simp only [xs, cn]
    rw [cn_par m]
    unfold ci
    by_cases hb : z.testBit m = true
    · rw [if_pos hb, hb, Bool.true_and]
      by_cases hc : (decide (d (fr m) ≤ t) ^^ decide (d (to m) ≤ t)) = true
      · rw [if_pos hc, hc]
        rcases Nat.mod_two_eq_zero_or_one (cn fr to d z t m) with q | q
        · rw [q, show (cn fr to d z t m + 1) % 2 = 1 by omega]; rfl
        · rw [q, show (cn fr to d z t m + 1) % 2 = 0 by omega]; rfl
      · rw [if_neg hc, bool_f hc, Nat.add_zero]
        generalize (cn fr to d z t m % 2 == 1) = b; cases b <;> rfl
    · rw [if_neg hb, bool_f hb, Nat.add_zero]
      generalize (cn fr to d z t m % 2 == 1) = b; cases b <;> rfl
