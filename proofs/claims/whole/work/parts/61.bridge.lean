-- edges in no ring, and groups without them
theorem cb_hi {r : Nat → Nat} {j c : Nat} (hc : c < 2 ^ j) : ∀ k, j ≤ k → cb r k c = cb r j c
  | 0, h => by have : j = 0 := by omega
               rw [this]
  | k + 1, h => by
    by_cases e : j = k + 1
    · rw [e]
    · have := cb_hi (r := r) hc k (by omega)
      simp only [cb]
      rw [Nat.testBit_lt_two_pow (Nat.lt_of_lt_of_le hc (Nat.pow_le_pow_right (by omega) (by omega)))]
      simp [this]
theorem ind_not {f : Nat → Nat} {k j : Nat} (h : ind f k) (hj : j < k) : ¬ spS (fun a => ∃ i, i < j ∧ a = f i) (f j) := by
  intro hs
  obtain ⟨c, hc, e⟩ := sp_code hs
  have h1 : cb f k (c ^^^ 2 ^ j) = 0 := by rw [cb_xor, cb_hi hc k (by omega), cb_pow f hj, ← e, Nat.xor_self]
  have hjk : 2 ^ j < 2 ^ k := Nat.pow_lt_pow_right (by omega) hj
  have h2 := h _ (Nat.xor_lt_two_pow (by omega) hjk) h1
  have h3 : (c ^^^ 2 ^ j).testBit j = true := by rw [Nat.testBit_xor, Nat.testBit_lt_two_pow hc, Nat.testBit_two_pow_self]; rfl
  rw [h2, Nat.zero_testBit] at h3; cases h3
theorem jOK_ind {fr to : Nat → Nat} {N s k : Nat} {q : JS} (h : jOK fr to N s k q) : ind q.2.2.2.1 q.2.2.1 := by
  intro c hc h0
  refine Nat.eq_of_testBit_eq (fun j => ?_)
  rw [Nat.zero_testBit]
  rcases Nat.lt_or_ge j q.2.2.1 with hj | hj
  · rw [← jOK_code h (c := c) hj, h0, Nat.zero_testBit]
  · exact Nat.testBit_lt_two_pow (Nat.lt_of_lt_of_le hc (Nat.pow_le_pow_right (by omega) hj))
theorem jOK_sp {fr to : Nat → Nat} {N s k : Nat} {q : JS} (h : jOK fr to N s k q) {z : Nat} (hz : ∀ x, bd fr to z x = false) (hb : ∀ e, z.testBit e = true → e < k ∧ s.testBit e = true) : spS (fun a => ∃ i, i < q.2.2.1 ∧ a = q.2.2.2.1 i) z := cb_sp.mp ⟨_, jOK_span h hz hb⟩
theorem sp_bit {P : Nat → Prop} {x y : Nat} (h : ∀ a, P a → a.testBit x = false) (hy : spS P y) : y.testBit x = false :=
  hy (fun a => a.testBit x = false) (Nat.zero_testBit x) (fun a b ha hb => by show (a ^^^ b).testBit x = false; rw [Nat.testBit_xor, ha, hb]; rfl) h
theorem sz_wo {m x : Nat} (hx : x < m) : sz (wo m x) m + 1 = m := by
  have h := ct0_drop (n := m) (f := fun e => (fl m).testBit e) (g := fun e => (wo m x).testBit e) hx (by rw [fl_bit]; simp [hx]) (bool_f (fun h => (wo_bit hx).mp h rfl)) (fun i hi hne => by rw [(wo_bit hi).mpr hne, fl_bit]; simp [hi])
  have h2 : ct0 m (fun e => (fl m).testBit e) = m := sz_fl m
  rw [h2] at h; exact h
/-- an edge is in no ring just where the groups are more without it -/
theorem al_iff {fr to : Nat → Nat} {nv m x : Nat} (hm : m ≤ 64) (hN : ∀ e, e < m → fr e < nv ∧ to e < nv) (hx : x < m) : gc nv (jRun fr to (fl m) m) < gc nv (jRun fr to (wo m x) m) ↔ ∀ i, i < dmA fr to m → (rgA fr to m i).testBit x = false := by
  have hA := jA hm hN
  have hW := jOK_run (fr := fr) (to := to) (N := nv) (s := wo m x) m hm (fun e he _ => hN e he)
  have g1 := gc_all (fr := fr) (to := to) (N := nv) (m := m) hN
  have g2 := gc_run (fr := fr) (to := to) (N := nv) (s := wo m x) m (fun e he _ => hN e he)
  have g3 := sz_wo hx
  have key : gc nv (jRun fr to (fl m) m) < gc nv (jRun fr to (wo m x) m) ↔ dmA fr to m ≤ (jRun fr to (wo m x) m).2.2.1 := by
    have e : dmA fr to m = (jRun fr to (fl m) m).2.2.1 := rfl
    rw [e]; omega
  rw [key]
  constructor
  · intro hle i hi
    refine bool_f (fun hbit => ?_)
    -- the rings without x, and this one behind them
    have hind : ind (va_up (jRun fr to (wo m x) m).2.2.2.1 (jRun fr to (wo m x) m).2.2.1 (rgA fr to m i)) ((jRun fr to (wo m x) m).2.2.1 + 1) := by
      refine ind_of (fun j hj hs => ?_)
      have hP : (fun a => ∃ t, t < j ∧ a = va_up (jRun fr to (wo m x) m).2.2.2.1 (jRun fr to (wo m x) m).2.2.1 (rgA fr to m i) t) = (fun a => ∃ t, t < j ∧ a = (jRun fr to (wo m x) m).2.2.2.1 t) := funext (fun a => propext ⟨fun ⟨t, a1, a2⟩ => ⟨t, a1, by rw [up_ne (by omega)] at a2; exact a2⟩, fun ⟨t, a1, a2⟩ => ⟨t, a1, by rw [up_ne (by omega)]; exact a2⟩⟩)
      rw [hP] at hs
      by_cases e : j = (jRun fr to (wo m x) m).2.2.1
      · rw [e, up_self] at hs
        have hno : ∀ a, (∃ t, t < (jRun fr to (wo m x) m).2.2.1 ∧ a = (jRun fr to (wo m x) m).2.2.2.1 t) → a.testBit x = false := by
          rintro a ⟨t, a1, a2⟩
          refine bool_f (fun h => ?_)
          rw [a2] at h
          have := (hW.2.2.2.2.1 t a1).2.2.2.1 x h
          exact (wo_bit hx).mp this.2 rfl
        have := sp_bit hno hs
        rw [hbit] at this; cases this
      · rw [up_ne e] at hs
        exact ind_not (jOK_ind hW) (by omega) hs
    refine steinitz (p := rgA fr to m) hind (fun j hj => ?_)
    have hmono : ∀ y, spS (fun a => ∃ t, t < dmA fr to m ∧ a = rgA fr to m t) y → spS (fun a => ∃ t, t < (jRun fr to (wo m x) m).2.2.1 ∧ a = rgA fr to m t) y := fun y => spS_in (fun a ⟨t, a1, a2⟩ => spS_p ⟨t, by omega, a2⟩)
    refine hmono _ ?_
    by_cases e : j = (jRun fr to (wo m x) m).2.2.1
    · rw [e, up_self]; exact spS_p ⟨i, hi, rfl⟩
    · rw [up_ne e]
      have hr := hW.2.2.2.2.1 j (by omega)
      exact jOK_sp hA hr.2.2.1 (fun e2 he => ⟨(hr.2.2.2.1 e2 he).1, by rw [fl_bit]; simp [(hr.2.2.2.1 e2 he).1]⟩)
  · intro h
    refine Classical.byContradiction (fun hn => ?_)
    have hlt : (jRun fr to (wo m x) m).2.2.1 + 1 ≤ dmA fr to m := by omega
    have hind : ind (rgA fr to m) ((jRun fr to (wo m x) m).2.2.1 + 1) := ind_of (fun j hj => ind_not (jOK_ind hA) (by show j < dmA fr to m; omega))
    refine steinitz (p := (jRun fr to (wo m x) m).2.2.2.1) hind (fun j hj => ?_)
    have hr := hA.2.2.2.2.1 j (by show j < dmA fr to m; omega)
    refine jOK_sp hW hr.2.2.1 (fun e he => ⟨(hr.2.2.2.1 e he).1, (wo_bit (hr.2.2.2.1 e he).1).mpr (fun e2 => ?_)⟩)
    rw [e2] at he
    have := h j (by omega)
    rw [show (rgA fr to m j).testBit x = true from he] at this; cases this
