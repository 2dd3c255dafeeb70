-- the ways found are the shortest: a fixed point after n - 1 rounds
/-- lengths that no edge but x shortens -/
def fixW (fr to wt : Nat → Nat) (x m : Nat) (d : Nat → Nat) : Prop := ∀ e, e < m → e ≠ x → d (to e) ≤ d (fr e) + wt e ∧ d (fr e) ≤ d (to e) + wt e
theorem sh1_le {a b e w : Nat} {p : WSt} (v : Nat) : (sh1 a b e w p).1 v ≤ p.1 v := by
  unfold sh1
  split
  · next h =>
    have hl : p.1 a + w < p.1 b := of_decide_eq_true h
    show va_up p.1 b (p.1 a + w) v ≤ p.1 v
    by_cases q : v = b
    · rw [q, up_self]; omega
    · rw [up_ne q]; exact Nat.le_refl _
  · exact Nat.le_refl _
theorem sh1_to {a b e w : Nat} {p : WSt} : (sh1 a b e w p).1 b ≤ p.1 a + w := by
  unfold sh1
  split
  · show va_up p.1 b (p.1 a + w) b ≤ p.1 a + w; rw [up_self]; exact Nat.le_refl _
  · next h => have : ¬ p.1 a + w < p.1 b := fun q => h (decide_eq_true q)
              omega
theorem shA_le {fr to wt : Nat → Nat} {x : Nat} {p : WSt} (v : Nat) : ∀ k, (shA fr to wt x k p).1.1 v ≤ p.1 v
  | 0 => Nat.le_refl _
  | k + 1 => by
    have ih := shA_le (fr := fr) (to := to) (wt := wt) (x := x) (p := p) v k
    simp only [shA]
    split
    · exact ih
    · exact Nat.le_trans (sh1_le v) (Nat.le_trans (sh1_le v) ih)
/-- when a round has changed nothing, all is as it was, and no edge shortens -/
theorem shA_same {fr to wt : Nat → Nat} {x : Nat} {p : WSt} : ∀ k, (shA fr to wt x k p).2 = false → (shA fr to wt x k p).1 = p ∧ fixW fr to wt x k p.1
  | 0, _ => ⟨rfl, fun e h => absurd h (Nat.not_lt_zero _)⟩
  | k + 1, h => by
    simp only [shA] at h ⊢
    by_cases hx : k = x
    · rw [if_pos hx] at h ⊢
      obtain ⟨a, b⟩ := shA_same k h
      exact ⟨a, fun e he hne => b e (by omega) hne⟩
    · rw [if_neg hx] at h ⊢
      simp only [Bool.or_eq_false_iff] at h
      obtain ⟨⟨h1, h2⟩, h3⟩ := h
      obtain ⟨a, b⟩ := shA_same k h1
      rw [a] at h2 h3 ⊢
      rw [sh1_no h2] at h3 ⊢
      rw [sh1_no h3]
      refine ⟨rfl, fun e he hne => ?_⟩
      by_cases q : e = k
      · subst q
        have n1 : ¬ p.1 (fr e) + wt e < p.1 (to e) := of_decide_eq_false h2
        have n2 : ¬ p.1 (to e) + wt e < p.1 (fr e) := of_decide_eq_false h3
        omega
      · exact b e (by omega) hne
/-- rounds without end -/
def itR (fr to wt : Nat → Nat) (x m : Nat) : Nat → WSt → WSt
  | 0, p => p
  | n + 1, p => itR fr to wt x m n (shA fr to wt x m p).1
theorem itR_s (fr to wt : Nat → Nat) (x m : Nat) : ∀ n p, itR fr to wt x m (n + 1) p = (shA fr to wt x m (itR fr to wt x m n p)).1
  | 0, p => rfl
  | n + 1, p => by
    show itR fr to wt x m (n + 1) (shA fr to wt x m p).1 = _
    rw [itR_s fr to wt x m n]; rfl
theorem sm_lt {n a : Nat} {f g : Nat → Nat} (h : ∀ i, i < n → f i ≤ g i) (ha : a < n) (hl : f a < g a) : sm n f < sm n g := by
  induction n with
  | zero => omega
  | succ n ih =>
    simp only [sm]
    have h2 : sm n f ≤ sm n g := sm_le (fun i hi => h i (by omega))
    by_cases e : a = n
    · subst e; omega
    · have := ih (fun i hi => h i (by omega)) (by omega); have := h n (by omega); omega
theorem sh1_drop {a b e w : Nat} {p : WSt} (h : sh1b a b w p = true) : (sh1 a b e w p).1 b < p.1 b := by
  have hl : p.1 a + w < p.1 b := of_decide_eq_true h
  rw [sh1_yes h]
  show va_up p.1 b (p.1 a + w) b < p.1 b
  rw [up_self]; exact hl
theorem shA_drop {fr to wt : Nat → Nat} {x N m : Nat} (hN : ∀ e, e < m → fr e < N ∧ to e < N) {p : WSt} : ∀ k, k ≤ m → (shA fr to wt x k p).2 = true → ∃ v, v < N ∧ (shA fr to wt x k p).1.1 v < p.1 v
  | 0, _, h => by cases h
  | k + 1, hk, h => by
    simp only [shA] at h ⊢
    by_cases hx : k = x
    · rw [if_pos hx] at h ⊢; exact shA_drop hN k (by omega) h
    · rw [if_neg hx] at h ⊢
      simp only [Bool.or_eq_true] at h
      rcases h with (h | h) | h
      · obtain ⟨v, a, b⟩ := shA_drop hN k (by omega) h
        exact ⟨v, a, Nat.lt_of_le_of_lt (sh1_le v) (Nat.lt_of_le_of_lt (sh1_le v) b)⟩
      · exact ⟨to k, (hN k (by omega)).2, Nat.lt_of_le_of_lt (sh1_le _) (Nat.lt_of_lt_of_le (sh1_drop h) (shA_le _ k))⟩
      · exact ⟨fr k, (hN k (by omega)).1, Nat.lt_of_lt_of_le (sh1_drop h) (Nat.le_trans (sh1_le _) (shA_le _ k))⟩
/-- some time nothing changes any more -/
theorem itR_end {fr to wt : Nat → Nat} {x N m : Nat} (hN : ∀ e, e < m → fr e < N ∧ to e < N) : ∀ (c : Nat) (p : WSt), sm N p.1 ≤ c → ∃ n, (shA fr to wt x m (itR fr to wt x m n p)).2 = false
  | c, p, hc => by
    by_cases h : (shA fr to wt x m p).2 = false
    · exact ⟨0, h⟩
    · have h : (shA fr to wt x m p).2 = true := by cases q : (shA fr to wt x m p).2 with | true => rfl | false => exact absurd q h
      obtain ⟨v, hv, hl⟩ := shA_drop hN m (Nat.le_refl m) h
      have hs := sm_lt (f := (shA fr to wt x m p).1.1) (g := p.1) (fun i _ => shA_le i m) hv hl
      cases c with
      | zero => omega
      | succ c =>
        obtain ⟨n, hn⟩ := itR_end hN c (shA fr to wt x m p).1 (by omega)
        exact ⟨n + 1, hn⟩
/-- what is final stays within S when no tight edge leaves S -/
def tightIn (fr to wt : Nat → Nat) (x m : Nat) (dl : Nat → Nat) (S : Nat → Prop) : Prop := ∀ e, e < m → e ≠ x → (S (fr e) → dl (to e) = dl (fr e) + wt e → S (to e)) ∧ (S (to e) → dl (fr e) = dl (to e) + wt e → S (fr e))
def abv (dl : Nat → Nat) (S : Nat → Prop) (p : WSt) : Prop := (∀ v, dl v ≤ p.1 v) ∧ ∀ v, p.1 v = dl v → S v
theorem sh1_abv {a b e w : Nat} {dl : Nat → Nat} {S : Nat → Prop} {p : WSt} (h : abv dl S p) (h1 : dl b ≤ dl a + w) (h2 : S a → dl b = dl a + w → S b) : abv dl S (sh1 a b e w p) := by
  unfold sh1
  split
  · next hh =>
    refine ⟨fun v => ?_, fun v hv => ?_⟩
    · show dl v ≤ va_up p.1 b (p.1 a + w) v
      by_cases q : v = b
      · rw [q, up_self]; have := h.1 a; omega
      · rw [up_ne q]; exact h.1 v
    · have hv : va_up p.1 b (p.1 a + w) v = dl v := hv
      by_cases q : v = b
      · rw [q, up_self] at hv
        rw [q]
        have h3 := h.1 a
        have e1 : p.1 a = dl a := by omega
        exact h2 (h.2 a e1) (by omega)
      · rw [up_ne q] at hv; exact h.2 v hv
  · exact h
theorem shA_abv {fr to wt : Nat → Nat} {x m : Nat} {dl : Nat → Nat} {S : Nat → Prop} (hf : fixW fr to wt x m dl) (ht : tightIn fr to wt x m dl S) {p : WSt} (h : abv dl S p) : ∀ k, k ≤ m → abv dl S (shA fr to wt x k p).1
  | 0, _ => h
  | k + 1, hk => by
    have ih := shA_abv hf ht h k (by omega)
    simp only [shA]
    split
    · exact ih
    · next hx => exact sh1_abv (sh1_abv ih (hf k (by omega) hx).1 (ht k (by omega) hx).1) (hf k (by omega) hx).2 (ht k (by omega) hx).2
theorem itR_abv {fr to wt : Nat → Nat} {x m : Nat} {dl : Nat → Nat} {S : Nat → Prop} (hf : fixW fr to wt x m dl) (ht : tightIn fr to wt x m dl S) : ∀ (n : Nat) (p : WSt), abv dl S p → abv dl S (itR fr to wt x m n p)
  | 0, _, h => h
  | n + 1, p, h => itR_abv hf ht n _ (shA_abv hf ht h m (Nat.le_refl m))
/-- a tight edge out of what is final makes its other end final in the next round -/
theorem shA_tight {fr to wt : Nat → Nat} {x m : Nat} {p : WSt} : ∀ k, k ≤ m → ∀ e, e < k → e ≠ x → (shA fr to wt x k p).1.1 (to e) ≤ p.1 (fr e) + wt e ∧ (shA fr to wt x k p).1.1 (fr e) ≤ p.1 (to e) + wt e
  | 0, _, e, h, _ => absurd h (Nat.not_lt_zero _)
  | k + 1, hk, e, he, hne => by
    simp only [shA]
    by_cases q : e = k
    · subst q
      rw [if_neg hne]
      constructor
      · exact Nat.le_trans (sh1_le _) (Nat.le_trans sh1_to (Nat.add_le_add_right (shA_le _ e) _))
      · exact Nat.le_trans sh1_to (Nat.add_le_add_right (Nat.le_trans (sh1_le _) (shA_le _ e)) _)
    · have ih := shA_tight (fr := fr) (to := to) (wt := wt) (x := x) (m := m) (p := p) k (by omega) e (by omega) hne
      split
      · exact ih
      · exact ⟨Nat.le_trans (sh1_le _) (Nat.le_trans (sh1_le _) ih.1), Nat.le_trans (sh1_le _) (Nat.le_trans (sh1_le _) ih.2)⟩
theorem itR_add (fr to wt : Nat → Nat) (x m : Nat) : ∀ k n p, itR fr to wt x m n (itR fr to wt x m k p) = itR fr to wt x m (k + n) p
  | 0, n, p => by rw [Nat.zero_add]; rfl
  | k + 1, n, p => by
    show itR fr to wt x m n (itR fr to wt x m k (shA fr to wt x m p).1) = _
    rw [itR_add fr to wt x m k n, show k + 1 + n = (k + n) + 1 by omega]; rfl
theorem itR_le {fr to wt : Nat → Nat} {x m : Nat} (v : Nat) : ∀ n p, (itR fr to wt x m n p).1 v ≤ p.1 v
  | 0, p => Nat.le_refl _
  | n + 1, p => Nat.le_trans (itR_le v n _) (shA_le v m)
theorem itR_stay {fr to wt : Nat → Nat} {x m : Nat} {p : WSt} (h : (shA fr to wt x m p).1 = p) : ∀ n, itR fr to wt x m n p = p
  | 0 => rfl
  | n + 1 => by show itR fr to wt x m n (shA fr to wt x m p).1 = p; rw [h]; exact itR_stay h n
theorem skR_cases {fr to wt : Nat → Nat} {x m : Nat} : ∀ n p, fixW fr to wt x m (skR fr to wt x m n p).1 ∨ skR fr to wt x m n p = itR fr to wt x m n p
  | 0, p => Or.inr rfl
  | n + 1, p => by
    simp only [skR]
    by_cases h : (shA fr to wt x m p).2 = true
    · rw [if_pos h]; exact skR_cases n _
    · rw [if_neg h]
      obtain ⟨a, b⟩ := shA_same m (bool_f h)
      rw [a]; exact Or.inl b
theorem itR_fin {fr to wt : Nat → Nat} {x N m a : Nat} (hN : ∀ e, e < m → fr e < N ∧ to e < N) (ha : a < N) : fixW fr to wt x m (itR fr to wt x m (N - 1) (sk0 a)).1 := by
  obtain ⟨n0, hn0⟩ := itR_end (x := x) (wt := wt) hN (sm N (sk0 a).1) (sk0 a) (Nat.le_refl _)
  obtain ⟨hs1, hfx⟩ := shA_same m hn0
  have habv : ∀ k v, (itR fr to wt x m n0 (sk0 a)).1 v ≤ (itR fr to wt x m k (sk0 a)).1 v := fun k v =>
    (itR_abv (S := fun _ => True) hfx (fun _ _ _ => ⟨fun _ _ => trivial, fun _ _ => trivial⟩) k (sk0 a) ⟨fun v => itR_le v n0 (sk0 a), fun _ _ => trivial⟩).1 v
  have hmono : ∀ k v, (itR fr to wt x m k (sk0 a)).1 v = (itR fr to wt x m n0 (sk0 a)).1 v → (itR fr to wt x m (k + 1) (sk0 a)).1 v = (itR fr to wt x m n0 (sk0 a)).1 v := fun k v h => by
    have h1 := habv (k + 1) v
    have h2 : (itR fr to wt x m (k + 1) (sk0 a)).1 v ≤ (itR fr to wt x m k (sk0 a)).1 v := by rw [itR_s]; exact shA_le v m
    omega
  have hcount : ∀ k, k < N → k + 1 ≤ ct0 N (fun v => decide ((itR fr to wt x m k (sk0 a)).1 v = (itR fr to wt x m n0 (sk0 a)).1 v)) := by
    intro k
    induction k with
    | zero =>
      intro _
      refine ct0_pos ha (decide_eq_true ?_)
      have := itR_le (fr := fr) (to := to) (wt := wt) (x := x) (m := m) a n0 (sk0 a)
      have e : (sk0 a).1 a = 0 := by show va_up (fun _ => 2 ^ 60) a 0 a = 0; exact up_self
      show (sk0 a).1 a = _
      omega
    | succ k ih =>
      intro hk
      have ih := ih (by omega)
      by_cases hall : ∀ v, v < N → (itR fr to wt x m k (sk0 a)).1 v = (itR fr to wt x m n0 (sk0 a)).1 v
      · rw [ct0_true N (fun v hv => decide_eq_true (hmono k v (hall v hv)))]; omega
      · -- some tight edge leads out
        have hnt : ¬ tightIn fr to wt x m (itR fr to wt x m n0 (sk0 a)).1 (fun v => (itR fr to wt x m k (sk0 a)).1 v = (itR fr to wt x m n0 (sk0 a)).1 v) := by
          intro ht
          apply hall
          intro v _
          have h1 := itR_abv hfx ht n0 (itR fr to wt x m k (sk0 a)) ⟨fun v => habv k v, fun v h => h⟩
          have e : itR fr to wt x m n0 (itR fr to wt x m k (sk0 a)) = itR fr to wt x m n0 (sk0 a) := by
            rw [itR_add, Nat.add_comm, ← itR_add, itR_stay hs1]
          rw [e] at h1
          exact h1.2 v rfl
        have hex : ∃ u b w, b < N ∧ (itR fr to wt x m k (sk0 a)).1 u = (itR fr to wt x m n0 (sk0 a)).1 u ∧ (itR fr to wt x m n0 (sk0 a)).1 b = (itR fr to wt x m n0 (sk0 a)).1 u + w ∧ (itR fr to wt x m k (sk0 a)).1 b ≠ (itR fr to wt x m n0 (sk0 a)).1 b ∧ (itR fr to wt x m (k + 1) (sk0 a)).1 b ≤ (itR fr to wt x m k (sk0 a)).1 u + w := by
          refine Classical.byContradiction (fun hno => hnt (fun e he hne => ?_))
          have hts := shA_tight (fr := fr) (to := to) (wt := wt) (x := x) (p := itR fr to wt x m k (sk0 a)) m (Nat.le_refl m) e he hne
          constructor
          · intro h1 h2
            refine Classical.byContradiction (fun h3 => hno ⟨fr e, to e, wt e, (hN e he).2, h1, h2, h3, by rw [itR_s]; exact hts.1⟩)
          · intro h1 h2
            refine Classical.byContradiction (fun h3 => hno ⟨to e, fr e, wt e, (hN e he).1, h1, h2, h3, by rw [itR_s]; exact hts.2⟩)
        obtain ⟨u, b, w, hb, h1, h2, h3, h4⟩ := hex
        have h5 := habv (k + 1) b
        have := ct_more (n := N) (f := fun v => decide ((itR fr to wt x m k (sk0 a)).1 v = (itR fr to wt x m n0 (sk0 a)).1 v)) (g := fun v => decide ((itR fr to wt x m (k + 1) (sk0 a)).1 v = (itR fr to wt x m n0 (sk0 a)).1 v)) (fun i _ h => decide_eq_true (hmono k i (of_decide_eq_true h))) hb (decide_eq_false h3) (decide_eq_true (by omega))
        omega
  have hN1 := hcount (N - 1) (by omega)
  have hfull : ∀ v, v < N → (itR fr to wt x m (N - 1) (sk0 a)).1 v = (itR fr to wt x m n0 (sk0 a)).1 v := by
    intro v hv
    refine Classical.byContradiction (fun h => ?_)
    have h2 := ct_more (n := N) (f := fun v => decide ((itR fr to wt x m (N - 1) (sk0 a)).1 v = (itR fr to wt x m n0 (sk0 a)).1 v)) (g := fun _ => true) (fun _ _ _ => rfl) hv (decide_eq_false h) rfl
    have h3 := ct0_le N (fun _ => true)
    omega
  intro e he hne
  have := hN e he
  rw [hfull _ this.1, hfull _ this.2]
  exact hfx e he hne
theorem sek_fix {fr to wt : Nat → Nat} {x N m a : Nat} (hN : ∀ e, e < m → fr e < N ∧ to e < N) (ha : a < N) : fixW fr to wt x m (sek fr to wt x m N a).1 := by
  unfold sek
  rcases skR_cases (fr := fr) (to := to) (wt := wt) (x := x) (m := m) (N - 1) (sk0 a) with h | h
  · exact h
  · rw [h]; exact itR_fin hN ha
