-- the list and its rows
def ldr (row : Nat → Nat) : Prop := ∀ e, e < 40 → row e = 0 ∨ ((row e).testBit e = true ∧ ∀ j, j < e → (row e).testBit j = false)
def rws (row : Nat → Nat) : Nat → Prop := fun a => ∃ e, e < 40 ∧ a = row e
theorem ldr_zero {row : Nat → Nat} {y : Nat} (h : ldr row) (hy : spS (rws row) y) (h0 : ∀ j, j < 40 → row j ≠ 0 → y.testBit j = false) : y = 0 := by
  obtain ⟨c, hc⟩ := cb_sp.mpr hy
  have key : ∀ N j, j < N → j < 40 → row j ≠ 0 → c.testBit j = false := by
    intro N; induction N with
    | zero => intro j hj; exact absurd hj (Nat.not_lt_zero _)
    | succ N ih =>
      intro j hj hjn hr
      have hb := h0 j hjn hr
      rw [hc, cb_bit, xs_one hjn] at hb
      · rw [((h j hjn).resolve_left hr).1, Bool.and_true] at hb; exact hb
      · intro i hi hij
        by_cases q : row i = 0
        · rw [q, Nat.zero_testBit]; cases c.testBit i <;> rfl
        · rcases Nat.lt_or_ge i j with l | l
          · rw [ih i (by omega) hi q]; rfl
          · rw [((h i hi).resolve_left q).2 j (by omega)]; cases c.testBit i <;> rfl
  rw [hc]
  apply Nat.eq_of_testBit_eq
  intro e
  rw [cb_bit, Nat.zero_testBit]
  apply xs_false
  intro i hi
  by_cases q : row i = 0
  · rw [q, Nat.zero_testBit]; cases c.testBit i <;> rfl
  · rw [key (i + 1) i (by omega) hi q]; rfl
theorem rst_ok {row : Nat → Nat} {z : Nat} (h : ldr row) : ∀ k, k ≤ 40 → spS (rws row) (z ^^^ rst row k z) ∧ ∀ j, j < k → row j ≠ 0 → (rst row k z).testBit j = false
  | 0, _ => ⟨by show spS _ (z ^^^ z); rw [Nat.xor_self]; exact spS_0 _, fun j hj => absurd hj (Nat.not_lt_zero _)⟩
  | k + 1, hk => by
    obtain ⟨a, b⟩ := rst_ok (z := z) h k (by omega)
    simp only [rst]
    by_cases c : (rst row k z).testBit k = true
    · rw [if_pos c]
      refine ⟨by rw [← Nat.xor_assoc]; exact spS_x a (spS_p ⟨k, by omega, rfl⟩), fun j hj hr => ?_⟩
      rw [Nat.testBit_xor]
      by_cases q : j = k
      · subst q; rw [c, ((h j (by omega)).resolve_left hr).1]; rfl
      · rw [b j (by omega) hr]
        rcases h k (by omega) with z0 | z0
        · rw [z0, Nat.zero_testBit]; rfl
        · rw [z0.2 j (by omega)]; rfl
    · rw [if_neg c]
      refine ⟨a, fun j hj hr => ?_⟩
      by_cases q : j = k
      · subst q; exact bool_f c
      · exact b j (by omega) hr
theorem rst_iff {row : Nat → Nat} {z : Nat} (h : ldr row) : rst row 40 z = 0 ↔ spS (rws row) z := by
  obtain ⟨a, b⟩ := rst_ok (z := z) h 40 (Nat.le_refl _)
  constructor
  · intro e; rw [e, Nat.xor_zero] at a; exact a
  · intro hs
    refine ldr_zero h ?_ b
    have := spS_x hs a
    rw [← Nat.xor_assoc, Nat.xor_self, Nat.zero_xor] at this; exact this
/-- the rows span what the list does -/
def lsI (row li : Nat → Nat) (L : Nat) : Prop := ldr row ∧ ∀ y, spS (rws row) y ↔ spS (fun a => ∃ j, j < L ∧ a = li j) y
theorem lsI_0 (li : Nat → Nat) : lsI (fun _ => 0) li 0 := ⟨fun _ _ => .inl rfl, fun y => ⟨spS_in (fun a ⟨_, _, h⟩ => by rw [h]; exact spS_0 _), spS_in (fun a ⟨_, h, _⟩ => absurd h (Nat.not_lt_zero _))⟩⟩
theorem rk_congr {li li' : Nat → Nat} : ∀ k, (∀ j, j < k → li j = li' j) → rk li k = rk li' k
  | 0, _ => rfl
  | k + 1, h => by
    have ih := rk_congr k (fun j hj => h j (by omega))
    have e : spS (fun a => ∃ i, i < k ∧ a = li i) (li k) ↔ spS (fun a => ∃ i, i < k ∧ a = li' i) (li' k) := by
      rw [h k (by omega)]
      exact ⟨spS_in (fun a ⟨i, i1, i2⟩ => spS_p ⟨i, i1, by rw [i2, h i (by omega)]⟩), spS_in (fun a ⟨i, i1, i2⟩ => spS_p ⟨i, i1, by rw [i2, h i (by omega)]⟩)⟩
    by_cases c : spS (fun a => ∃ i, i < k ∧ a = li i) (li k)
    · rw [rk_in c, rk_in (e.mp c), ih]
    · rw [rk_out c, rk_out (fun q => c (e.mpr q)), ih]
theorem lsI_add {row li : Nat → Nat} {L z : Nat} (h : lsI row li L) (hz : z < 2 ^ 40) (hr : ∀ e, e < 40 → row e < 2 ^ 40) : lsI (apn row z) (va_up li L z) (L + 1) ∧ apk row (rk li L) z = rk (va_up li L z) (L + 1) := by
  obtain ⟨h1, h2⟩ := h
  have e1 : ∀ {y}, spS (fun a => ∃ i, i < L ∧ a = va_up li L z i) y ↔ spS (fun a => ∃ i, i < L ∧ a = li i) y := fun {y} => ⟨spS_in (fun a ⟨i, i1, i2⟩ => spS_p ⟨i, i1, by rw [i2, up_ne (by omega)]⟩), spS_in (fun a ⟨i, i1, i2⟩ => spS_p ⟨i, i1, by rw [i2, up_ne (by omega)]⟩)⟩
  have hk : rk (va_up li L z) L = rk li L := rk_congr L (fun j hj => up_ne (by omega))
  have e2 : ∀ {y}, spS (fun a => ∃ i, i < L + 1 ∧ a = va_up li L z i) y ↔ spS (fun a => rws row a ∨ a = z) y := fun {y} => by
    constructor
    · refine spS_in (fun a ⟨i, i1, i2⟩ => ?_)
      by_cases q : i = L
      · rw [i2, q, up_self]; exact spS_p (.inr rfl)
      · rw [i2, up_ne q]
        exact spS_in (fun b hb => spS_p (.inl hb)) ((h2 _).mpr (spS_p ⟨i, by omega, rfl⟩))
    · refine spS_in (fun a ha => ?_)
      rcases ha with ha | ha
      · exact spS_in (fun b ⟨i, i1, i2⟩ => spS_p ⟨i, by omega, by rw [i2, up_ne (by omega)]⟩) ((h2 a).mp (spS_p ha))
      · rw [ha]; exact spS_p ⟨L, by omega, up_self.symm⟩
  obtain ⟨a, b⟩ := rst_ok (z := z) h1 40 (Nat.le_refl _)
  have hrl := rst_lt hz hr 40 (Nat.le_refl 40)
  unfold apn apk
  by_cases c : rst row 40 z = 0
  · have hs := (rst_iff h1).mp c
    rw [if_pos c, if_pos c]
    refine ⟨⟨h1, fun y => ?_⟩, ?_⟩
    · rw [e2]
      exact ⟨spS_in (fun x hx => spS_p (.inl hx)), spS_in (fun x hx => hx.elim (fun q => spS_p q) (fun q => by rw [q]; exact hs))⟩
    · rw [rk_in (by rw [up_self]; exact e1.mpr ((h2 z).mp hs)), hk]
  · have hs : ¬ spS (rws row) z := fun q => c ((rst_iff h1).mpr q)
    rw [if_neg c, if_neg c]
    obtain ⟨l1, l2, l3⟩ := low_ok c (Nat.lt_trans hrl (by decide))
    have ht : low (rst row 40 z) < 40 := low_lt c (by omega) hrl
    have h0 : row (low (rst row 40 z)) = 0 := Classical.byContradiction (fun q => by rw [b _ ht q] at l1; cases l1)
    generalize low (rst row 40 z) = t at *
    refine ⟨⟨fun e he => ?_, fun y => ?_⟩, ?_⟩
    · by_cases q : e = t
      · subst q; rw [up_self]; exact .inr ⟨l1, l3⟩
      · rw [up_ne q]; exact h1 e he
    · rw [e2]
      have hz2 : ∀ {P : Nat → Prop}, (∀ x, rws row x → spS P x) → (spS P z ↔ spS P (rst row 40 z)) := fun hP => by
        have a2 := spS_in hP a
        constructor
        · intro q; have := spS_x q a2; rw [← Nat.xor_assoc, Nat.xor_self, Nat.zero_xor] at this; exact this
        · intro q; have := spS_x a2 q; rw [Nat.xor_assoc, Nat.xor_self, Nat.xor_zero] at this; exact this
      constructor
      · refine spS_in (fun x ⟨e, e3, e4⟩ => ?_)
        by_cases q : e = t
        · rw [e4, q, up_self]; exact (hz2 (fun x hx => spS_p (.inl hx))).mp (spS_p (.inr rfl))
        · rw [e4, up_ne q]; exact spS_p (.inl ⟨e, e3, rfl⟩)
      · have hrow : ∀ x, rws row x → spS (rws (va_up row t (rst row 40 z))) x := fun x ⟨e, e3, e4⟩ => by
          by_cases q : e = t
          · rw [e4, q, h0]; exact spS_0 _
          · rw [e4]; exact spS_p ⟨e, e3, (up_ne q).symm⟩
        refine spS_in (fun x hx => hx.elim (hrow x) (fun q => ?_))
        rw [q]; exact (hz2 hrow).mpr (spS_p ⟨t, ht, up_self.symm⟩)
    · rw [rk_out (by rw [up_self]; exact fun q => hs ((h2 z).mpr (e1.mp q))), hk]
-- lightest
theorem lgo_add {fr to wt : Nat → Nat} {ne : Nat} : ∀ n q a, lgo fr to wt ne n q a = a + lgo fr to wt ne n q 0
  | 0, _, _ => rfl
  | n + 1, q, a => by
    cases h : bE1 fr to wt q ne with
    | none => rw [lgo_none h, lgo_none h]; rfl
    | some b => rw [lgo_some h, lgo_some h, lgo_add n _ (a + wt b), lgo_add n _ (0 + wt b)]; omega
theorem gc_pos2 {N : Nat} {q : JS} (h0 : 0 < N) (h : jI N q) : 1 ≤ gc N q := ct0_pos (a := q.1 0) (h 0 h0).1 (by simp [(h 0 h0).2])
theorem lgo_st {fr to wt : Nat → Nat} {ne nv : Nat} (h0 : 0 < nv) (hN : ∀ e, e < ne → fr e < nv ∧ to e < nv) : ∀ n n2 q a, jI nv q → gc nv q ≤ n + 1 → gc nv q ≤ n2 + 1 → lgo fr to wt ne n q a = lgo fr to wt ne n2 q a
  | n, n2, q, a, hj, h1, h2 => by
    cases h : bE1 fr to wt q ne with
    | none => rw [lgo_none h, lgo_none h]
    | some b =>
      obtain ⟨b1, b2⟩ := bE1_in h
      have g1 := gc_join (e := b) hj (hN b b1).1 (hN b b1).2 b2
      have j2 := jI_step (e := b) hj (hN b b1).1 (hN b b1).2
      have g2 := gc_pos2 h0 j2
      obtain ⟨k, rfl⟩ : ∃ k, n = k + 1 := ⟨n - 1, by omega⟩
      obtain ⟨k2, rfl⟩ : ∃ k2, n2 = k2 + 1 := ⟨n2 - 1, by omega⟩
      rw [lgo_some h, lgo_some h]
      exact lgo_st h0 hN k k2 _ _ j2 (by omega) (by omega)
-- edges in no cycle; odd cycles
theorem alone_tie {fr to : Nat → Nat} {nv ne : Nat} (hm : ne ≤ 64) (hN : ∀ e, e < ne → fr e < nv ∧ to e < nv) : alM fr to nv ne ne = ne - sz (orS (rgA fr to ne) (dmA fr to ne)) ne := by
  have e : alM fr to nv ne ne = ct0 ne (fun x => !(orS (rgA fr to ne) (dmA fr to ne)).testBit x) := by
    unfold alM
    apply ct0_congr
    intro x hx
    have a := al_iff hm hN hx
    have b := orS_bit (r := rgA fr to ne) (e := x) (dmA fr to ne)
    cases c : (orS (rgA fr to ne) (dmA fr to ne)).testBit x with
    | false => exact decide_eq_true (a.mpr (b.mp c))
    | true => exact decide_eq_false (fun h => by rw [b.mpr (a.mp h)] at c; cases c)
  have := ct_not ne (fun x => (orS (rgA fr to ne) (dmA fr to ne)).testBit x)
  rw [e]; unfold sz; omega
-- the graph grows and shrinks
theorem jRun_congr {fr to fr' to' : Nat → Nat} {s s' : Nat} : ∀ k, (∀ e, e < k → fr e = fr' e ∧ to e = to' e ∧ s.testBit e = s'.testBit e) → jRun fr to s k = jRun fr' to' s' k
  | 0, _ => rfl
  | k + 1, h => by
    have ih := jRun_congr k (fun e he => h e (by omega))
    obtain ⟨a, b, c⟩ := h k (by omega)
    cases d : s.testBit k with
    | true => rw [jRun_in d, jRun_in (by rw [← c]; exact d), ih, a, b]
    | false => rw [jRun_out (by rw [d]; decide), jRun_out (by rw [← c, d]; decide), ih]
theorem dmA_drop {fr to : Nat → Nat} {m : Nat} : dmA fr to m ≤ dmA fr to (m + 1) := by
  have e : jRun fr to (fl (m + 1)) m = jRun fr to (fl m) m := jRun_congr m (fun e he => ⟨rfl, rfl, by rw [fl_bit, fl_bit, decide_eq_true he, decide_eq_true (by omega)]⟩)
  have := jd_mono (fr := fr) (to := to) (s := fl (m + 1)) (k := m)
  rw [e] at this; exact this
theorem dmA_add {fr to : Nat → Nat} {m a b : Nat} : dmA (va_up fr m a) (va_up to m b) (m + 1) = dmA fr to m + (if (jRun fr to (fl m) m).1 a = (jRun fr to (fl m) m).1 b then 1 else 0) := by
  have e : jRun (va_up fr m a) (va_up to m b) (fl (m + 1)) m = jRun fr to (fl m) m := jRun_congr m (fun e he => ⟨up_ne (by omega), up_ne (by omega), by rw [fl_bit, fl_bit, decide_eq_true he, decide_eq_true (by omega)]⟩)
  show (jRun _ _ (fl (m + 1)) (m + 1)).2.2.1 = _
  rw [jRun_all (Nat.lt_succ_self m), e, up_self, up_self]
  by_cases c : (jRun fr to (fl m) m).1 a = (jRun fr to (fl m) m).1 b
  · rw [if_pos c, jd_close c]
  · rw [if_neg c, jd_join c]; rfl
