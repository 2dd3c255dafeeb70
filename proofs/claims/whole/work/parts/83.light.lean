-- through
theorem through_tie {fr to wt : Nat → Nat} {nv ne x : Nat} {r : Int64} (hm : ne ≤ 40) (hn : nv ≤ 16) (hN : ∀ e, e < ne → fr e < nv ∧ to e < nv) (hw : ∀ e, e < ne → wt e ≤ 1000000000) (hx : x < ne) (h : thI (fun c => (elA fr to ne c).testBit x) (fun c => wsum wt (elA fr to ne c) ne) (2 ^ dmA fr to ne) r) :
    r = if (sek fr to wt x ne nv (fr x)).1 (to x) < 2 ^ 60 then lN ((sek fr to wt x ne nv (fr x)).1 (to x) + wt x) else -1 := by
  have hb : ∀ {z e : Nat}, z < 2 ^ ne → z.testBit e = true → e < ne := fun {z e} hz h => Nat.lt_of_not_le (fun q => by rw [Nat.testBit_lt_two_pow (Nat.lt_of_lt_of_le hz (Nat.pow_le_pow_right (by omega) q))] at h; cases h)
  have up : (sek fr to wt x ne nv (fr x)).1 (to x) < 2 ^ 60 → ∃ c, c < 2 ^ dmA fr to ne ∧ (elA fr to ne c).testBit x = true ∧ wsum wt (elA fr to ne c) ne ≤ (sek fr to wt x ne nv (fr x)).1 (to x) + wt x := fun hr => by
    obtain ⟨z, z1, z2, z3, z4⟩ := thr_ub (N := nv) hm hx hr
    have hz : z < 2 ^ ne := Nat.lt_pow_two_of_testBit _ (fun i hi => bool_f (fun h => by have := z2 i h; omega))
    have e := elA_code (nv := nv) (by omega) hN hz ((evn_bd (by omega) hN hz).mpr z1)
    exact ⟨cdA fr to ne z, nb_lt _ _, by rw [e]; exact z3, by rw [e]; exact z4⟩
  rcases h with ⟨h1, h2⟩ | ⟨c, h1, h2, h3, h4⟩
  · rw [if_neg (fun hr => by
      obtain ⟨c, c1, c2, _⟩ := up hr
      exact Bool.false_ne_true ((h2 c c1).symm.trans c2)), h1]
  · have hl := elA_lt (c := c) (by omega : ne ≤ 64) hN (Nat.le_refl _)
    obtain ⟨l1, l2⟩ := thr_lb hm hn hN hw hx ((evn_bd (by omega) hN hl).mp (elA_even (by omega) hN)) (fun e he => hb hl he) h2
    obtain ⟨c', c1, c2, c3⟩ := up l1
    have := h4 c' c1 c2
    rw [if_pos l1, h3]
    congr 1
    exact Nat.le_antisymm (Nat.le_trans this c3) l2
-- codes and sets
theorem elA_xor (fr to : Nat → Nat) (ne a b : Nat) : elA fr to ne (a ^^^ b) = elA fr to ne a ^^^ elA fr to ne b := cb_xor _ _ _ _
theorem spS_el {fr to : Nat → Nat} {ne c : Nat} {P : Nat → Prop} (h : spS P c) : spS (fun y => ∃ a, P a ∧ y = elA fr to ne a) (elA fr to ne c) :=
  h (fun c => spS (fun y => ∃ a, P a ∧ y = elA fr to ne a) (elA fr to ne c)) (by show spS _ (cb _ _ 0); rw [cb_0]; exact spS_0 _) (fun a b h1 h2 => by show spS _ (elA fr to ne (a ^^^ b)); rw [elA_xor]; exact spS_x h1 h2) (fun a ha => spS_p ⟨a, ha, rfl⟩)
theorem spS_le {fr to : Nat → Nat} {nv ne c : Nat} {P : Nat → Prop} (hm : ne ≤ 64) (hN : ∀ e, e < ne → fr e < nv ∧ to e < nv) (hP : ∀ a, P a → a < 2 ^ dmA fr to ne) (hc : c < 2 ^ dmA fr to ne) (h : spS (fun y => ∃ a, P a ∧ y = elA fr to ne a) (elA fr to ne c)) : spS P c := by
  have := h (fun y => ∃ c', c' < 2 ^ dmA fr to ne ∧ y = elA fr to ne c' ∧ spS P c') ⟨0, Nat.two_pow_pos _, (cb_0 _ _).symm, spS_0 P⟩ (fun a b ⟨c1, h1, h2, h3⟩ ⟨c2, h4, h5, h6⟩ => ⟨c1 ^^^ c2, Nat.xor_lt_two_pow h1 h4, by rw [elA_xor, h2, h5], spS_x h3 h6⟩) (fun y ⟨a, h1, h2⟩ => ⟨a, hP a h1, h2, spS_p h1⟩)
  obtain ⟨c', h1, h2, h3⟩ := this
  have e1 := code_elA hm hN hc
  have e2 := code_elA hm hN h1
  rw [h2, e2] at e1
  rw [← e1]; exact h3
-- the candidates as they are listed
def gOK (fr to wt : Nat → Nat) (nv ne : Nat) (s : GS) : Prop := ∀ i, i < s.1 → s.2.1 i ≠ 0 ∧ caW fr to wt nv ne (s.2.2 i) (s.2.1 i)
theorem gat1_ok {fr to wt : Nat → Nat} {nv ne v e : Nat} {s : GS} (hv : v < nv) (he : e < ne) (h : gOK fr to wt nv ne s) : gOK fr to wt nv ne (gat1 (sek fr to wt ne ne nv v) (fr e) (to e) e (wt e) s) ∧ s.1 ≤ (gat1 (sek fr to wt ne ne nv v) (fr e) (to e) e (wt e) s).1 ∧ (∀ i, i < s.1 → (gat1 (sek fr to wt ne ne nv v) (fr e) (to e) e (wt e) s).2.1 i = s.2.1 i ∧ (gat1 (sek fr to wt ne ne nv v) (fr e) (to e) e (wt e) s).2.2 i = s.2.2 i) ∧
    ((sek fr to wt ne ne nv v).1 (fr e) < 2 ^ 60 → gcl (sek fr to wt ne ne nv v) (fr e) (to e) e ≠ 0 → ∃ i, i < (gat1 (sek fr to wt ne ne nv v) (fr e) (to e) e (wt e) s).1 ∧ (gat1 (sek fr to wt ne ne nv v) (fr e) (to e) e (wt e) s).2.1 i = gcl (sek fr to wt ne ne nv v) (fr e) (to e) e ∧ (gat1 (sek fr to wt ne ne nv v) (fr e) (to e) e (wt e) s).2.2 i = (sek fr to wt ne ne nv v).1 (fr e) + (sek fr to wt ne ne nv v).1 (to e) + wt e) := by
  by_cases c : (sek fr to wt ne ne nv v).1 (fr e) < 2 ^ 60 ∧ gcl (sek fr to wt ne ne nv v) (fr e) (to e) e ≠ 0
  · rw [gat1_yes c.1 c.2]
    refine ⟨fun i hi => ?_, Nat.le_succ _, fun i hi => ⟨up_ne (by omega), up_ne (by omega)⟩, fun _ _ => ⟨s.1, Nat.lt_succ_self _, up_self, up_self⟩⟩
    have hi : i < s.1 + 1 := hi
    by_cases q : i = s.1
    · subst q
      show va_up _ _ _ _ ≠ 0 ∧ caW _ _ _ _ _ (va_up _ _ _ _) (va_up _ _ _ _)
      rw [up_self, up_self]
      exact ⟨c.2, v, e, hv, he, c.1, rfl, Nat.le_refl _⟩
    · show va_up _ _ _ _ ≠ 0 ∧ caW _ _ _ _ _ (va_up _ _ _ _) (va_up _ _ _ _)
      rw [up_ne q, up_ne q]; exact h i (by omega)
  · rw [gat1_no c]
    exact ⟨h, Nat.le_refl _, fun _ _ => ⟨rfl, rfl⟩, fun a b => absurd ⟨a, b⟩ c⟩
theorem gatV_ok {fr to wt : Nat → Nat} {nv ne v : Nat} {s : GS} (hv : v < nv) (h : gOK fr to wt nv ne s) : ∀ k, k ≤ ne → gOK fr to wt nv ne (gatV fr to wt (sek fr to wt ne ne nv v) k s) ∧ s.1 ≤ (gatV fr to wt (sek fr to wt ne ne nv v) k s).1 ∧ (∀ i, i < s.1 → (gatV fr to wt (sek fr to wt ne ne nv v) k s).2.1 i = s.2.1 i ∧ (gatV fr to wt (sek fr to wt ne ne nv v) k s).2.2 i = s.2.2 i) ∧
    ∀ e, e < k → (sek fr to wt ne ne nv v).1 (fr e) < 2 ^ 60 → gcl (sek fr to wt ne ne nv v) (fr e) (to e) e ≠ 0 → ∃ i, i < (gatV fr to wt (sek fr to wt ne ne nv v) k s).1 ∧ (gatV fr to wt (sek fr to wt ne ne nv v) k s).2.1 i = gcl (sek fr to wt ne ne nv v) (fr e) (to e) e ∧ (gatV fr to wt (sek fr to wt ne ne nv v) k s).2.2 i = (sek fr to wt ne ne nv v).1 (fr e) + (sek fr to wt ne ne nv v).1 (to e) + wt e
  | 0, _ => ⟨h, Nat.le_refl _, fun _ _ => ⟨rfl, rfl⟩, fun e he => absurd he (Nat.not_lt_zero _)⟩
  | k + 1, hk => by
    obtain ⟨a, b, c, d⟩ := gatV_ok hv h k (by omega)
    obtain ⟨a2, b2, c2, d2⟩ := gat1_ok (s := gatV fr to wt (sek fr to wt ne ne nv v) k s) (e := k) hv (by omega) a
    refine ⟨a2, Nat.le_trans b b2, fun i hi => ?_, fun e he h1 h2 => ?_⟩
    · have := c2 i (by omega)
      exact ⟨this.1.trans (c i hi).1, this.2.trans (c i hi).2⟩
    · by_cases q : e = k
      · subst q; exact d2 h1 h2
      · obtain ⟨i, i1, i2, i3⟩ := d e (by omega) h1 h2
        have := c2 i i1
        exact ⟨i, Nat.lt_of_lt_of_le i1 b2, this.1.trans i2, this.2.trans i3⟩
theorem gatA_ok {fr to wt : Nat → Nat} {nv ne : Nat} : ∀ n, n ≤ nv → gOK fr to wt nv ne (gatA fr to wt nv ne n) ∧ ∀ v, v < n → ∀ e, e < ne → (sek fr to wt ne ne nv v).1 (fr e) < 2 ^ 60 → gcl (sek fr to wt ne ne nv v) (fr e) (to e) e ≠ 0 → ∃ i, i < (gatA fr to wt nv ne n).1 ∧ (gatA fr to wt nv ne n).2.1 i = gcl (sek fr to wt ne ne nv v) (fr e) (to e) e ∧ (gatA fr to wt nv ne n).2.2 i = (sek fr to wt ne ne nv v).1 (fr e) + (sek fr to wt ne ne nv v).1 (to e) + wt e
  | 0, _ => ⟨fun i hi => absurd hi (Nat.not_lt_zero _), fun v hv => absurd hv (Nat.not_lt_zero _)⟩
  | n + 1, hn => by
    obtain ⟨a, b⟩ := gatA_ok (fr := fr) (to := to) (wt := wt) (nv := nv) (ne := ne) n (by omega)
    obtain ⟨a2, b2, c2, d2⟩ := gatV_ok (v := n) (by omega) a ne (Nat.le_refl _)
    refine ⟨a2, fun v hv e he h1 h2 => ?_⟩
    by_cases q : v = n
    · subst q; exact d2 e he h1 h2
    · obtain ⟨i, i1, i2, i3⟩ := b v (by omega) e he h1 h2
      have := c2 i i1
      exact ⟨i, Nat.lt_of_lt_of_le i1 b2, this.1.trans i2, this.2.trans i3⟩
theorem caW_list {fr to wt : Nat → Nat} {nv ne W y : Nat} (h : caW fr to wt nv ne W y) : y = 0 ∨ ∃ i, i < (gatA fr to wt nv ne nv).1 ∧ (gatA fr to wt nv ne nv).2.1 i = y ∧ (gatA fr to wt nv ne nv).2.2 i ≤ W := by
  obtain ⟨v, e, h1, h2, h3, h4, h5⟩ := h
  by_cases q : y = 0
  · exact .inl q
  · obtain ⟨i, i1, i2, i3⟩ := (gatA_ok nv (Nat.le_refl _)).2 v h1 e h2 h3 (by rw [← h4]; exact q)
    exact .inr ⟨i, i1, by rw [i2, h4], by rw [i3]; exact h5⟩
-- rows with marks
def mrk (r : Nat → Nat) (n : Nat) : Prop := (∀ j, j < n → r j ≠ 0 ∧ r j < 2 ^ 64) ∧ ∀ j k, j < k → k < n → (r k).testBit (low (r j)) = false
theorem mrk_zero {r : Nat → Nat} {n : Nat} {g : Nat → Prop} {y : Nat} (h : mrk r n) (hy : spS (fun a => ∃ j, j < n ∧ g j ∧ a = r j) y) (h0 : ∀ j, j < n → g j → y.testBit (low (r j)) = false) : y = 0 := by
  have hg : ∀ j, Decidable (g j) := fun j => Classical.propDecidable _
  have hy2 : spS (fun a => ∃ i, i < n ∧ a = (fun j => if g j then r j else 0) i) y := spS_in (fun a ⟨j, j1, j2, j3⟩ => spS_p ⟨j, j1, by show a = if g j then r j else 0; rw [if_pos j2]; exact j3⟩) hy
  obtain ⟨c, hc⟩ := cb_sp.mpr hy2
  have key : ∀ N j, j < N → j < n → g j → c.testBit j = false := by
    intro N; induction N with
    | zero => intro j hj; exact absurd hj (Nat.not_lt_zero _)
    | succ N ih =>
      intro j hj hjn hgj
      have hb := h0 j hjn hgj
      rw [hc, cb_bit, xs_one hjn] at hb
      · rw [if_pos hgj, (low_ok (h.1 j hjn).1 (h.1 j hjn).2).1, Bool.and_true] at hb; exact hb
      · intro i hi hij
        by_cases q : g i
        · rcases Nat.lt_or_ge i j with l | l
          · rw [ih i (by omega) hi q]; rfl
          · rw [if_pos q, h.2 j i (by omega) hi]; cases c.testBit i <;> rfl
        · rw [if_neg q, Nat.zero_testBit]; cases c.testBit i <;> rfl
  rw [hc]
  apply Nat.eq_of_testBit_eq
  intro e
  rw [cb_bit, Nat.zero_testBit]
  apply xs_false
  intro i hi
  by_cases q : g i
  · rw [key (i + 1) i (by omega) hi q]; rfl
  · rw [if_neg q, Nat.zero_testBit]; cases c.testBit i <;> rfl
theorem isl_ok {s : FS} {lim z n : Nat} (h : mrk s.2.1 n) : ∀ i, i ≤ n → spS (fun a => ∃ j, j < i ∧ s.2.2.1 j < lim ∧ a = s.2.1 j) (z ^^^ isl s lim i z) ∧ ∀ j, j < i → s.2.2.1 j < lim → (isl s lim i z).testBit (low (s.2.1 j)) = false
  | 0, _ => ⟨by show spS _ (z ^^^ z); rw [Nat.xor_self]; exact spS_0 _, fun j hj => absurd hj (Nat.not_lt_zero _)⟩
  | i + 1, hi => by
    obtain ⟨a, b⟩ := isl_ok (lim := lim) (z := z) h i (by omega)
    have a2 : spS (fun a => ∃ j, j < i + 1 ∧ s.2.2.1 j < lim ∧ a = s.2.1 j) (z ^^^ isl s lim i z) := spS_in (fun x ⟨j, j1, j2⟩ => spS_p ⟨j, by omega, j2⟩) a
    simp only [isl]
    by_cases c : s.2.2.1 i < lim ∧ (isl s lim i z).testBit (low (s.2.1 i)) = true
    · rw [if_pos c]
      refine ⟨?_, fun j hj hl => ?_⟩
      · rw [← Nat.xor_assoc]; exact spS_x a2 (spS_p ⟨i, by omega, c.1, rfl⟩)
      · rw [Nat.testBit_xor]
        by_cases q : j = i
        · subst q; rw [c.2, (low_ok (h.1 j (by omega)).1 (h.1 j (by omega)).2).1]; rfl
        · rw [b j (by omega) hl, h.2 j i (by omega) (by omega)]; rfl
    · rw [if_neg c]
      refine ⟨a2, fun j hj hl => ?_⟩
      by_cases q : j = i
      · subst q; exact bool_f (fun hb => c ⟨hl, hb⟩)
      · exact b j (by omega) hl
theorem isl_iff {s : FS} {lim z n : Nat} (h : mrk s.2.1 n) : isl s lim n z = 0 ↔ spS (fun a => ∃ j, j < n ∧ s.2.2.1 j < lim ∧ a = s.2.1 j) z := by
  obtain ⟨a, b⟩ := isl_ok (lim := lim) (z := z) h n (Nat.le_refl _)
  constructor
  · intro e; rw [e, Nat.xor_zero] at a; exact a
  · intro hs
    refine mrk_zero (g := fun j => s.2.2.1 j < lim) h ?_ b
    have := spS_x hs a
    rw [← Nat.xor_assoc, Nat.xor_self, Nat.zero_xor] at this; exact this
