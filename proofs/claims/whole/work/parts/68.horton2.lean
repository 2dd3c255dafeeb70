-- every even set is a sum of candidates told no heavier
theorem cn_out {fr to d : Nat → Nat} {z t x : Nat} (hx : z.testBit x = true) : ∀ m, cn fr to d z t m = cn fr to d (z ^^^ 2 ^ x) t m + (if x < m then ci fr to d x t else 0)
  | 0 => rfl
  | m + 1 => by
    simp only [cn]
    rw [cn_out hx m, Nat.testBit_xor]
    by_cases h : x = m
    · subst h; rw [Nat.testBit_two_pow_self, hx, if_neg (Nat.lt_irrefl x)]; simp
    · rw [Nat.testBit_two_pow_of_ne h, Bool.xor_false]
      by_cases h2 : x < m
      · simp only [if_pos h2, if_pos (show x < m + 1 by omega)]; omega
      · simp only [if_neg h2, if_neg (show ¬ x < m + 1 by omega)]; omega
theorem cn_zero {fr to d : Nat → Nat} {z t : Nat} : ∀ m, cn fr to d z t m = 0 → ∀ e, e < m → z.testBit e = true → decide (d (fr e) ≤ t) = decide (d (to e) ≤ t)
  | 0, _, e, h, _ => absurd h (Nat.not_lt_zero _)
  | m + 1, h0, e, he, hb => by
    simp only [cn] at h0
    by_cases q : e = m
    · subst q
      rw [if_pos hb] at h0
      have : ci fr to d e t = 0 := by omega
      unfold ci at this
      by_cases hc : (decide (d (fr e) ≤ t) ^^ decide (d (to e) ≤ t)) = true
      · rw [if_pos hc] at this; cases this
      · cases h1 : decide (d (fr e) ≤ t) <;> cases h2 : decide (d (to e) ≤ t) <;> simp [h1, h2] at hc ⊢
    · exact cn_zero m (by omega) e (by omega) hb
theorem sm_two (lo : Nat) : ∀ D, sm D (fun t => if t < lo then 2 else 1) = D + min lo D
  | 0 => by simp [sm]
  | D + 1 => by
    simp only [sm]
    rw [sm_two lo D]
    split <;> omega
theorem eW_sp {fr to wt : Nat → Nat} {N m W : Nat} (hm : m ≤ 40) (hN16 : N ≤ 16) (hN : ∀ e, e < m → fr e < N ∧ to e < N) (hw : ∀ e, e < m → wt e ≤ 1000000000) : ∀ n y, sz y m ≤ n → eW fr to wt m W y → spS (caW fr to wt N m W) y := by
  intro n
  induction n with
  | zero =>
    intro y hs hy
    have : y = 0 := Nat.eq_of_testBit_eq (fun e => by
      rw [Nat.zero_testBit]
      refine bool_f (fun h => ?_)
      have := ct0_pos (f := fun e => y.testBit e) (hy.2.1 e h) h
      have hs : ct0 m (fun e => y.testBit e) ≤ 0 := hs
      omega)
    rw [this]; exact spS_0 _
  | succ n ih =>
    intro y hs hy
    obtain ⟨hy1, hy2, hy3⟩ := hy
    by_cases hsp : ∃ S : Nat → Bool, (∀ e, y.testBit e = true → S (fr e) = S (to e)) ∧ (∃ e, y.testBit e = true ∧ S (fr e) = true) ∧ ∃ e, y.testBit e = true ∧ S (fr e) = false
    · obtain ⟨S, hc, ⟨e1, b1, s1⟩, e2, b2, s2⟩ := hsp
      have hc' : ∀ e, y.testBit e = true → (fun v => !S v) (fr e) = (fun v => !S v) (to e) := fun e he => by show (!S (fr e)) = (!S (to e)); rw [hc e he]
      have hsum : y = inS fr S y m ^^^ inS fr (fun v => !S v) y m := Nat.eq_of_testBit_eq (fun e => by
        rw [Nat.testBit_xor]
        rcases Nat.lt_or_ge e m with q | q
        · rw [inS_bit q, inS_bit q]; cases y.testBit e <;> cases S (fr e) <;> rfl
        · rw [bool_f (fun h => absurd (hy2 e h) (by omega)), bool_f (fun h => absurd (inS_lt h) (by omega)), bool_f (fun h => absurd (inS_lt h) (by omega))]; rfl)
      have hsub : ∀ (S' : Nat → Bool) e, e < m → (inS fr S' y m).testBit e = true → y.testBit e = true := fun S' e he h => by
        rw [inS_bit he] at h; cases hh : y.testBit e with
        | true => rfl
        | false => rw [hh] at h; cases h
      have z1 : sz (inS fr S y m) m + 1 ≤ sz y m := ct_more (f := fun e => (inS fr S y m).testBit e) (g := fun e => y.testBit e) (fun i hi h => hsub S i hi h) (hy2 e2 b2) (by rw [inS_bit (hy2 e2 b2), s2, Bool.and_false]) b2
      have z2 : sz (inS fr (fun v => !S v) y m) m + 1 ≤ sz y m := ct_more (f := fun e => (inS fr (fun v => !S v) y m).testBit e) (g := fun e => y.testBit e) (fun i hi h => hsub _ i hi h) (hy2 e1 b1) (by rw [inS_bit (hy2 e1 b1), s1]; simp) b1
      rw [hsum]
      refine spS_x (ih _ (by omega) ⟨inS_bd (by omega) hy2 hy1 hc, fun e h => inS_lt h, Nat.le_trans (wsum_mono m (hsub S)) hy3⟩) (ih _ (by omega) ⟨inS_bd (by omega) hy2 hy1 hc', fun e h => inS_lt h, Nat.le_trans (wsum_mono m (hsub _)) hy3⟩)
    · have hno : ∀ S : Nat → Bool, (∀ e, y.testBit e = true → S (fr e) = S (to e)) → ∀ e1 e2, y.testBit e1 = true → y.testBit e2 = true → S (fr e1) = true → S (fr e2) = true := fun S hc e1 e2 h1 h2 h3 => Classical.byContradiction (fun h4 => hsp ⟨S, hc, ⟨e1, h1, h3⟩, e2, h2, bool_f h4⟩)
      by_cases hf : ∃ f0, y.testBit f0 = true
      · obtain ⟨f0, hf0⟩ := hf
        have hv := (hN f0 (hy2 f0 hf0)).1
        have hd0 : (sek fr to wt m m N (fr f0)).1 (fr f0) = 0 := sek_a
        have hfx := sek_fix (x := m) (wt := wt) hN hv
        have hreach : ∀ e, y.testBit e = true → (sek fr to wt m m N (fr f0)).1 (fr e) < 2 ^ 60 := fun e he => by
          have := hno (fun u => decide ((sek fr to wt m m N (fr f0)).1 u < 2 ^ 60)) (fun e he => by
            have hb := sek_both hm hN16 hN hw hv (hy2 e he)
            by_cases q : (sek fr to wt m m N (fr f0)).1 (fr e) < 2 ^ 60
            · show decide _ = decide _; rw [decide_eq_true q, decide_eq_true (hb.mp q)]
            · show decide _ = decide _; rw [decide_eq_false q, decide_eq_false (fun h => q (hb.mpr h))]) f0 e hf0 he (decide_eq_true (by rw [hd0]; exact Nat.two_pow_pos 60))
          exact of_decide_eq_true this
        have heven : ∀ t, cn fr to (sek fr to wt m m N (fr f0)).1 y t m % 2 = 0 := fun t => by
          have h1 := cr_even (N := N) (fun e he => hN e (hy2 e he)) hy1 (fun v => decide ((sek fr to wt m m N (fr f0)).1 v ≤ t))
          rw [cr_trim (by omega) hy2, cn_par] at h1
          have : ¬ cn fr to (sek fr to wt m m N (fr f0)).1 y t m % 2 = 1 := by simpa using h1
          omega
        have htold : ∀ e, y.testBit e = true → (sek fr to wt m m N (fr f0)).1 (fr e) + (sek fr to wt m m N (fr f0)).1 (to e) + wt e ≤ W := fun e he => by
          have hem := hy2 e he
          have hb' : ∀ i, (y ^^^ 2 ^ e).testBit i = true → y.testBit i = true := fun i hi => by
            rw [Nat.testBit_xor, pow_bit] at hi
            by_cases q : e = i
            · rw [← q]; exact he
            · rw [bne_of q, Bool.xor_false] at hi; exact hi
          have hlow : sm (max ((sek fr to wt m m N (fr f0)).1 (fr e)) ((sek fr to wt m m N (fr f0)).1 (to e))) (fun t => if t < min ((sek fr to wt m m N (fr f0)).1 (fr e)) ((sek fr to wt m m N (fr f0)).1 (to e)) then 2 else 1) ≤ sm (max ((sek fr to wt m m N (fr f0)).1 (fr e)) ((sek fr to wt m m N (fr f0)).1 (to e))) (fun t => cn fr to (sek fr to wt m m N (fr f0)).1 (y ^^^ 2 ^ e) t m) := sm_le (fun t ht => by
            have hev := heven t
            have hout := cn_out (fr := fr) (to := to) (d := (sek fr to wt m m N (fr f0)).1) (t := t) he m
            rw [if_pos hem] at hout
            by_cases q : t < min ((sek fr to wt m m N (fr f0)).1 (fr e)) ((sek fr to wt m m N (fr f0)).1 (to e))
            · rw [if_pos q]
              have hci : ci fr to (sek fr to wt m m N (fr f0)).1 e t = 0 := by unfold ci; rw [decide_eq_false (by omega), decide_eq_false (by omega)]; rfl
              have hpos : cn fr to (sek fr to wt m m N (fr f0)).1 y t m ≠ 0 := fun h0 => by
                have hz := cn_zero m h0
                have := hno (fun u => decide ((sek fr to wt m m N (fr f0)).1 u ≤ t)) (fun i hi => hz i (hy2 i hi) hi) f0 e hf0 he (decide_eq_true (by rw [hd0]; exact Nat.zero_le t))
                have := of_decide_eq_true this
                omega
              omega
            · rw [if_neg q]
              have hci : ci fr to (sek fr to wt m m N (fr f0)).1 e t = 1 := by
                unfold ci
                by_cases q1 : (sek fr to wt m m N (fr f0)).1 (fr e) ≤ t
                · rw [decide_eq_true q1, decide_eq_false (by omega)]; rfl
                · rw [decide_eq_false q1, decide_eq_true (by omega)]; rfl
              omega)
          rw [sm_two] at hlow
          have hle := sm_cn (fr := fr) (to := to) (d := (sek fr to wt m m N (fr f0)).1) (wt := wt) (z := y ^^^ 2 ^ e) (max ((sek fr to wt m m N (fr f0)).1 (fr e)) ((sek fr to wt m m N (fr f0)).1 (to e))) m (fun i hi hbit => hfx i hi (by omega))
          have hws := wsum_out (wt := wt) he m
          rw [if_pos hem] at hws
          omega
        -- the sum of its edges' candidates
        have hyc : y = cb (fun e => if y.testBit e then gcl (sek fr to wt m m N (fr f0)) (fr e) (to e) e else 0) m y := Nat.eq_of_testBit_eq (fun i => by
          rw [cb_bit]
          have h1 : xs m (fun e => y.testBit e && (if y.testBit e then gcl (sek fr to wt m m N (fr f0)) (fr e) (to e) e else 0).testBit i) = xs m (fun e => (y.testBit e && (((sek fr to wt m m N (fr f0)).2 (fr e)).testBit i ^^ ((sek fr to wt m m N (fr f0)).2 (to e)).testBit i)) ^^ (y.testBit e && (e == i))) := xs_congr (fun e _ => by
            cases hb : y.testBit e with
            | false => rfl
            | true =>
              simp only [if_pos, Bool.true_and]
              rw [show (gcl (sek fr to wt m m N (fr f0)) (fr e) (to e) e).testBit i = _ from by rw [Nat.testBit_xor, Nat.testBit_xor, pow_bit]])
          rw [h1, xs_xor]
          have h2 := cr_even (N := N) (fun e he => hN e (hy2 e he)) hy1 (fun u => ((sek fr to wt m m N (fr f0)).2 u).testBit i)
          rw [cr_trim (by omega) hy2] at h2
          rw [h2, Bool.false_xor]
          rcases Nat.lt_or_ge i m with q | q
          · rw [xs_one q]
            · simp
            · intro j _ hne; rw [bne_of hne]; simp
          · rw [xs_false _ (fun j hj => by rw [bne_of (show j ≠ i by omega)]; simp)]
            exact bool_f (fun h => absurd (hy2 i h) (by omega)))
        rw [hyc]
        refine cb_in (fun e he => ?_)
        by_cases hb : y.testBit e = true
        · rw [if_pos hb]; exact spS_p ⟨fr f0, e, hv, he, hreach e hb, rfl, htold e hb⟩
        · rw [if_neg hb]; exact spS_0 _
      · have : y = 0 := Nat.eq_of_testBit_eq (fun e => by rw [Nat.zero_testBit]; exact bool_f (fun h => hf ⟨e, h⟩))
        rw [this]; exact spS_0 _
/-- candidates and even sets not above W span the same -/
theorem horton {fr to wt : Nat → Nat} {N m W : Nat} (hm : m ≤ 40) (hN16 : N ≤ 16) (hN : ∀ e, e < m → fr e < N ∧ to e < N) (hw : ∀ e, e < m → wt e ≤ 1000000000) (y : Nat) : spS (caW fr to wt N m W) y ↔ spS (eW fr to wt m W) y :=
  ⟨spS_in (fun a h => spS_p (caW_e hm hN16 hN hw h)), spS_in (fun a h => eW_sp hm hN16 hN hw _ a (Nat.le_refl _) h)⟩
