-- counting: more than k independent numbers are never sums of k
theorem pig : ∀ (n : Nat) (f : Nat → Nat), (∀ i, i < n + 1 → f i < n) → ∃ i j, i < j ∧ j < n + 1 ∧ f i = f j
  | 0, f, h => absurd (h 0 (by omega)) (Nat.not_lt_zero _)
  | n + 1, f, h => by
    by_cases hv : ∃ i, i < n + 1 ∧ f i = f (n + 1)
    · obtain ⟨i, hi, e⟩ := hv; exact ⟨i, n + 1, hi, by omega, e⟩
    · have hv' : ∀ i, i < n + 1 → f i ≠ f (n + 1) := fun i hi e => hv ⟨i, hi, e⟩
      have hl := h (n + 1) (by omega)
      obtain ⟨i, j, hij, hj, e⟩ := pig n (fun i => if f i = n then f (n + 1) else f i) (fun i hi => by
        show (if f i = n then f (n + 1) else f i) < n
        have h1 := h i (by omega)
        have h2 := hv' i hi
        split
        · omega
        · omega)
      refine ⟨i, j, hij, by omega, ?_⟩
      have e : (if f i = n then f (n + 1) else f i) = (if f j = n then f (n + 1) else f j) := e
      have h1 := hv' i (by omega)
      have h2 := hv' j (by omega)
      by_cases a : f i = n <;> by_cases b : f j = n
      · rw [a, b]
      · rw [if_pos a, if_neg b] at e; exact absurd e.symm h2
      · rw [if_neg a, if_pos b] at e; exact absurd e h1
      · rw [if_neg a, if_neg b] at e; exact e
theorem pigM {M n : Nat} (hM : n < M) (f : Nat → Nat) (h : ∀ i, i < M → f i < n) : ∃ i j, i < j ∧ j < M ∧ f i = f j := by
  obtain ⟨i, j, a, b, c⟩ := pig n f (fun i hi => h i (by omega))
  exact ⟨i, j, a, by omega, c⟩
theorem cb_congr {r : Nat → Nat} {c c' : Nat} : ∀ {k}, (∀ i, i < k → c.testBit i = c'.testBit i) → cb r k c = cb r k c'
  | 0, _ => rfl
  | k + 1, h => by simp only [cb]; rw [cb_congr (fun i hi => h i (by omega)), h k (by omega)]
theorem cb_mod (r : Nat → Nat) (k c : Nat) : cb r k (c % 2 ^ k) = cb r k c := cb_congr (fun i hi => by rw [Nat.testBit_mod_two_pow]; simp [hi])
theorem sp_code {r : Nat → Nat} {k y : Nat} (h : spS (fun a => ∃ i, i < k ∧ a = r i) y) : ∃ c, c < 2 ^ k ∧ y = cb r k c := by
  obtain ⟨c, hc⟩ := cb_sp.mpr h
  exact ⟨c % 2 ^ k, Nat.mod_lt _ (Nat.two_pow_pos k), by rw [cb_mod]; exact hc⟩
theorem no_span {k d : Nat} (rows : Nat → Nat) (hk : k < d) : ∃ y, y < 2 ^ d ∧ ¬ spS (fun a => ∃ i, i < k ∧ a = rows i) y := by
  refine Classical.byContradiction (fun hn => ?_)
  have h1 : ∀ y, ∃ c, y < 2 ^ d → c < 2 ^ k ∧ y = cb rows k c := fun y => by
    by_cases hy : y < 2 ^ d
    · have : spS (fun a => ∃ i, i < k ∧ a = rows i) y := Classical.byContradiction (fun h => hn ⟨y, hy, h⟩)
      obtain ⟨c, a, b⟩ := sp_code this
      exact ⟨c, fun _ => ⟨a, b⟩⟩
    · exact ⟨0, fun h => absurd h hy⟩
  obtain ⟨i, j, a, b, e⟩ := pigM (Nat.pow_lt_pow_right (by omega : 1 < 2) hk) (fun y => Classical.choose (h1 y)) (fun y hy => (Classical.choose_spec (h1 y) hy).1)
  have e1 := (Classical.choose_spec (h1 i) (by omega)).2
  have e2 := (Classical.choose_spec (h1 j) b).2
  have e : Classical.choose (h1 i) = Classical.choose (h1 j) := e
  rw [e] at e1
  rw [← e2] at e1
  omega
/-- no sum of one or more is 0 -/
def ind (f : Nat → Nat) (k : Nat) : Prop := ∀ c, c < 2 ^ k → cb f k c = 0 → c = 0
theorem steinitz {f p : Nat → Nat} {k : Nat} (hf : ind f (k + 1)) (h : ∀ j, j < k + 1 → spS (fun a => ∃ i, i < k ∧ a = p i) (f j)) : False := by
  have h1 : ∀ c, ∃ d, d < 2 ^ k ∧ cb f (k + 1) c = cb p k d := fun c => sp_code (cb_in h)
  obtain ⟨i, j, a, b, e⟩ := pigM (Nat.pow_lt_pow_right (by omega : 1 < 2) (Nat.lt_succ_self k)) (fun c => Classical.choose (h1 c)) (fun c _ => (Classical.choose_spec (h1 c)).1)
  have e1 := (Classical.choose_spec (h1 i)).2
  have e2 := (Classical.choose_spec (h1 j)).2
  have e : Classical.choose (h1 i) = Classical.choose (h1 j) := e
  rw [e, ← e2] at e1
  have h0 : i ^^^ j = 0 := hf _ (Nat.xor_lt_two_pow (by omega) b) (by rw [cb_xor, e1, Nat.xor_self])
  have : i = j := by
    have := congrArg (fun x => x ^^^ j) h0
    simp only [xor_can, Nat.zero_xor] at this
    exact this
  omega
/-- what comes behind, each no sum of those before, is independent -/
theorem ind_of {f : Nat → Nat} : ∀ {k}, (∀ j, j < k → ¬ spS (fun a => ∃ i, i < j ∧ a = f i) (f j)) → ind f k
  | 0, _ => fun c hc _ => by omega
  | k + 1, h => by
    intro c hc h0
    have ih := ind_of (f := f) (k := k) (fun j hj => h j (by omega))
    simp only [cb] at h0
    cases hb : c.testBit k with
    | false =>
      rw [hb] at h0
      simp at h0
      have hlt : c < 2 ^ k := Nat.lt_pow_two_of_testBit _ (fun i hi => by
        by_cases e : i = k
        · rw [e]; exact hb
        · exact Nat.testBit_lt_two_pow (Nat.lt_of_lt_of_le hc (Nat.pow_le_pow_right (by omega) (by omega))))
      exact ih c hlt h0
    | true =>
      rw [hb, if_pos rfl] at h0
      refine absurd ?_ (h k (by omega))
      have e : f k = cb f k c := by
        have := congrArg (fun x => x ^^^ f k) h0
        simp only [xor_can, Nat.zero_xor] at this
        exact this.symm
      rw [e]
      exact cb_in (fun i hi => spS_p ⟨i, hi, rfl⟩)
/-- picked one behind the other, each the lightest of those below D that are no sums of the earlier ones -/
def grd (w : Nat → Nat) (D : Nat) (pk : Nat → Nat) (k : Nat) : Prop := ∀ j, j < k → pk j < D ∧ ¬ spS (fun a => ∃ i, i < j ∧ a = pk i) (pk j) ∧ ∀ x, x < D → ¬ spS (fun a => ∃ i, i < j ∧ a = pk i) x → w (pk j) ≤ w x
/-- the search for the lightest: one looked at more -/
def bst (w : Nat → Nat) (P : Nat → Prop) (x : Nat) (bb : Int32) : Prop := (bb = -1 ∧ ∀ y, y < x → spS P y) ∨ ∃ b0, b0 < x ∧ bb = nI b0 ∧ ¬ spS P b0 ∧ ∀ y, y < x → ¬ spS P y → w b0 ≤ w y
theorem bst_skip {w : Nat → Nat} {P : Nat → Prop} {x : Nat} {bb : Int32} (h : bst w P x bb) (hx : spS P x) : bst w P (x + 1) bb := by
  rcases h with ⟨h1, h2⟩ | ⟨b0, h1, h2, h3, h4⟩
  · refine Or.inl ⟨h1, fun y hy => ?_⟩
    by_cases e : y = x
    · rw [e]; exact hx
    · exact h2 y (by omega)
  · refine Or.inr ⟨b0, by omega, h2, h3, fun y hy hn => ?_⟩
    by_cases e : y = x
    · rw [e] at hn; exact absurd hx hn
    · exact h4 y (by omega) hn
theorem bst_keep {w : Nat → Nat} {P : Nat → Prop} {x b0 : Nat} {bb : Int32} (h0 : b0 < x) (h2 : bb = nI b0) (h3 : ¬ spS P b0) (h4 : ∀ y, y < x → ¬ spS P y → w b0 ≤ w y) (hx : w b0 ≤ w x) : bst w P (x + 1) bb := by
  refine Or.inr ⟨b0, by omega, h2, h3, fun y hy hn => ?_⟩
  by_cases e : y = x
  · rw [e]; exact hx
  · exact h4 y (by omega) hn
theorem bst_new {w : Nat → Nat} {P : Nat → Prop} {x : Nat} {bb : Int32} (h : bst w P x bb) (hx : ¬ spS P x) (hl : ∀ b0, b0 < x → bb = nI b0 → w x ≤ w b0) : bst w P (x + 1) (nI x) := by
  refine Or.inr ⟨x, by omega, rfl, hx, fun y hy hn => ?_⟩
  by_cases e : y = x
  · rw [e]; exact Nat.le_refl _
  · rcases h with ⟨h1, h2⟩ | ⟨b0, h1, h2, h3, h4⟩
    · exact absurd (h2 y (by omega)) hn
    · exact Nat.le_trans (hl b0 h1 h2) (h4 y (by omega) hn)
theorem bst_end {w : Nat → Nat} {P : Nat → Prop} {x : Nat} {bb : Int32} (h : bst w P x bb) (hn : ¬ ∀ y, y < x → spS P y) : ∃ b0, b0 < x ∧ bb = nI b0 ∧ ¬ spS P b0 ∧ ∀ y, y < x → ¬ spS P y → w b0 ≤ w y := h.elim (fun h => absurd h.2 hn) id
/-- one more picked -/
theorem grd_add {w : Nat → Nat} {D k b0 : Nat} {pk : Nat → Nat} (h : grd w D pk k) (h0 : b0 < D) (h1 : ¬ spS (fun a => ∃ j, j < k ∧ a = pk j) b0) (h2 : ∀ y, y < D → ¬ spS (fun a => ∃ j, j < k ∧ a = pk j) y → w b0 ≤ w y) : grd w D (va_up pk k b0) (k + 1) := by
  have hP : ∀ j, j ≤ k → (fun a => ∃ i, i < j ∧ a = va_up pk k b0 i) = (fun a => ∃ i, i < j ∧ a = pk i) := fun j hj => funext (fun a => propext ⟨fun ⟨i, hi, e⟩ => ⟨i, hi, by rw [up_ne (by omega)] at e; exact e⟩, fun ⟨i, hi, e⟩ => ⟨i, hi, by rw [up_ne (by omega)]; exact e⟩⟩)
  intro j hj
  rw [hP j (by omega)]
  by_cases e : j = k
  · subst e; rw [up_self]; exact ⟨h0, h1, h2⟩
  · rw [up_ne e]; exact h j (by omega)
theorem up_P {pk : Nat → Nat} {k b0 a : Nat} : ((∃ j, j < k ∧ a = pk j) ∨ a = b0) ↔ ∃ j, j < k + 1 ∧ a = va_up pk k b0 j := by
  constructor
  · rintro (⟨j, hj, e⟩ | e)
    · exact ⟨j, by omega, by rw [up_ne (by omega)]; exact e⟩
    · exact ⟨k, by omega, by rw [up_self]; exact e⟩
  · rintro ⟨j, hj, e⟩
    by_cases hjk : j = k
    · subst hjk; rw [up_self] at e; exact Or.inr e
    · rw [up_ne hjk] at e; exact Or.inl ⟨j, by omega, e⟩
theorem bst_elim {w : Nat → Nat} {P : Nat → Prop} {x : Nat} {bb : Int32} (h : bst w P x bb) (hn : ¬ bb < 0) : ∃ b0, b0 < x ∧ bb = nI b0 ∧ ¬ spS P b0 ∧ ∀ y, y < x → ¬ spS P y → w b0 ≤ w y := h.elim (fun h => absurd (by rw [h.1]; decide) hn) id
