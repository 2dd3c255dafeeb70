-- sets with given ends weigh as much as the way between them
theorem pow_bit (a v : Nat) : (2 ^ a).testBit v = (a == v) := by
  by_cases h : a = v
  · subst h; rw [Nat.testBit_two_pow_self]; simp
  · rw [Nat.testBit_two_pow_of_ne h, bne_of h]
theorem wsum_xor {wt : Nat → Nat} {s t : Nat} : ∀ m, wsum wt (s ^^^ t) m ≤ wsum wt s m + wsum wt t m
  | 0 => Nat.le_refl _
  | m + 1 => by
    have ih := wsum_xor (wt := wt) (s := s) (t := t) m
    simp only [wsum]
    rw [Nat.testBit_xor]
    cases s.testBit m <;> cases t.testBit m <;> simp <;> omega
theorem wsum_pow {wt : Nat → Nat} {e : Nat} : ∀ m, wsum wt (2 ^ e) m = if e < m then wt e else 0
  | 0 => rfl
  | m + 1 => by
    simp only [wsum]
    rw [wsum_pow m]
    by_cases h : e = m
    · subst h; rw [Nat.testBit_two_pow_self, if_neg (by omega)]; simp
    · rw [Nat.testBit_two_pow_of_ne h, if_neg (show ¬ (false = true) by decide), Nat.add_zero]
      by_cases h2 : e < m
      · rw [if_pos h2, if_pos (by omega)]
      · rw [if_neg h2, if_neg (by omega)]
theorem wsum_out {wt : Nat → Nat} {s x : Nat} (hx : s.testBit x = true) : ∀ m, wsum wt s m = wsum wt (s ^^^ 2 ^ x) m + (if x < m then wt x else 0)
  | 0 => rfl
  | m + 1 => by
    simp only [wsum]
    rw [wsum_out hx m, Nat.testBit_xor]
    by_cases h : x = m
    · subst h; rw [Nat.testBit_two_pow_self, hx, if_neg (by omega)]; simp
    · rw [Nat.testBit_two_pow_of_ne h, Bool.xor_false]
      by_cases h2 : x < m
      · simp only [if_pos h2, if_pos (show x < m + 1 by omega)]; omega
      · simp only [if_neg h2, if_neg (show ¬ x < m + 1 by omega)]; omega
theorem wsum_zero {wt : Nat → Nat} : ∀ m, wsum wt 0 m = 0
  | 0 => rfl
  | m + 1 => by simp [wsum, wsum_zero m]
/-- what holds of ways from a, at every time -/
def wI (fr to wt : Nat → Nat) (x m a : Nat) (p : WSt) : Prop := ∀ v, p.1 v ≤ 2 ^ 60 ∧ (p.1 v < 2 ^ 60 → (∀ t, bd fr to (p.2 v) t = ((a == t) ^^ (v == t))) ∧ (∀ e, (p.2 v).testBit e = true → e < m ∧ e ≠ x) ∧ wsum wt (p.2 v) m ≤ p.1 v)
theorem wI_0 {fr to wt : Nat → Nat} {x m a : Nat} : wI fr to wt x m a (sk0 a) := by
  intro v
  show va_up (fun _ => 2 ^ 60) a 0 v ≤ 2 ^ 60 ∧ (va_up (fun _ => 2 ^ 60) a 0 v < 2 ^ 60 → _)
  by_cases h : v = a
  · subst h
    rw [up_self]
    refine ⟨Nat.zero_le _, fun _ => ⟨fun t => ?_, fun e he => ?_, ?_⟩⟩
    · show bd fr to 0 t = _; rw [bd_zero]; cases (v == t) <;> rfl
    · have he : (0 : Nat).testBit e = true := he
      rw [Nat.zero_testBit] at he; cases he
    · show wsum wt 0 m ≤ _; rw [wsum_zero]; exact Nat.zero_le _
  · rw [up_ne h]; exact ⟨Nat.le_refl _, fun h => absurd h (Nat.lt_irrefl _)⟩
theorem wI_sh {fr to wt : Nat → Nat} {x m a u b e : Nat} {p : WSt} (h : wI fr to wt x m a p) (he : e < m) (hm : m ≤ 64) (hx : e ≠ x) (hub : (fr e = u ∧ to e = b) ∨ (to e = u ∧ fr e = b)) : wI fr to wt x m a (sh1 u b e (wt e) p) := by
  unfold sh1
  split
  · next hs =>
    have hl : p.1 u + wt e < p.1 b := of_decide_eq_true hs
    have hb := (h b).1
    have hu : p.1 u < 2 ^ 60 := by omega
    obtain ⟨u1, u2, u3⟩ := (h u).2 hu
    intro v
    show va_up p.1 b (p.1 u + wt e) v ≤ 2 ^ 60 ∧ (va_up p.1 b (p.1 u + wt e) v < 2 ^ 60 → (∀ t, bd fr to (va_up p.2 b (p.2 u ^^^ 2 ^ e) v) t = _) ∧ (∀ e', (va_up p.2 b (p.2 u ^^^ 2 ^ e) v).testBit e' = true → _) ∧ wsum wt (va_up p.2 b (p.2 u ^^^ 2 ^ e) v) m ≤ va_up p.1 b (p.1 u + wt e) v)
    by_cases q : v = b
    · subst q
      rw [up_self, up_self]
      refine ⟨by omega, fun _ => ⟨fun t => ?_, fun e' he' => ?_, ?_⟩⟩
      · rw [bd_xor, bd_pow (by omega), u1 t]
        rcases hub with ⟨r1, r2⟩ | ⟨r1, r2⟩ <;> rw [r1, r2] <;> cases (a == t) <;> cases (u == t) <;> cases (v == t) <;> rfl
      · rw [Nat.testBit_xor, pow_bit] at he'
        by_cases q2 : e = e'
        · rw [← q2]; exact ⟨he, hx⟩
        · rw [bne_of q2, Bool.xor_false] at he'; exact u2 e' he'
      · have h1 := wsum_xor (wt := wt) (s := p.2 u) (t := 2 ^ e) m
        rw [wsum_pow, if_pos he] at h1
        omega
    · rw [up_ne q, up_ne q]; exact h v
  · exact h
theorem wI_shA {fr to wt : Nat → Nat} {x m a : Nat} (hm : m ≤ 64) {p : WSt} (h : wI fr to wt x m a p) : ∀ k, k ≤ m → wI fr to wt x m a (shA fr to wt x k p).1
  | 0, _ => h
  | k + 1, hk => by
    have ih := wI_shA hm h k (by omega)
    simp only [shA]
    split
    · exact ih
    · next hx => exact wI_sh (wI_sh ih (by omega) hm hx (Or.inl ⟨rfl, rfl⟩)) (by omega) hm hx (Or.inr ⟨rfl, rfl⟩)
theorem wI_skR {fr to wt : Nat → Nat} {x m a : Nat} (hm : m ≤ 64) : ∀ n p, wI fr to wt x m a p → wI fr to wt x m a (skR fr to wt x m n p)
  | 0, _, h => h
  | n + 1, p, h => by
    simp only [skR]
    split
    · exact wI_skR hm n _ (wI_shA hm h m (Nat.le_refl m))
    · exact wI_shA hm h m (Nat.le_refl m)
theorem wI_sek {fr to wt : Nat → Nat} {x m a N : Nat} (hm : m ≤ 64) : wI fr to wt x m a (sek fr to wt x m N a) := wI_skR hm _ _ wI_0
theorem sek_a {fr to wt : Nat → Nat} {x m a N : Nat} : (sek fr to wt x m N a).1 a = 0 := by
  have h : ∀ n p, p.1 a = 0 → (skR fr to wt x m n p).1 a = 0 := by
    intro n
    induction n with
    | zero => exact fun p h => h
    | succ n ih =>
      intro p h
      have h2 : (shA fr to wt x m p).1.1 a = 0 := by have := shA_le (fr := fr) (to := to) (wt := wt) (x := x) (p := p) a m; omega
      simp only [skR]
      split
      · exact ih _ h2
      · exact h2
  exact h _ _ (by show va_up (fun _ => 2 ^ 60) a 0 a = 0; exact up_self)
/-- what is reached is near -/
def wB (B : Nat) (p : WSt) : Prop := ∀ v, p.1 v = 2 ^ 60 ∨ p.1 v ≤ B
theorem wB_sh {B K u b e w : Nat} {p : WSt} (h : wB B p) (hm : ∀ v, p.1 v ≤ 2 ^ 60) (hw : w ≤ K) : wB (B + K) (sh1 u b e w p) := by
  have hmono : ∀ x, x ≤ B → x ≤ B + K := fun x hx => Nat.le_trans hx (Nat.le_add_right B K)
  unfold sh1
  split
  · next hs =>
    have hl : p.1 u + w < p.1 b := of_decide_eq_true hs
    intro v
    show va_up p.1 b (p.1 u + w) v = 2 ^ 60 ∨ va_up p.1 b (p.1 u + w) v ≤ B + K
    by_cases q : v = b
    · rw [q, up_self]
      rcases h u with h1 | h1
      · have := hm b; omega
      · exact Or.inr (Nat.add_le_add h1 hw)
    · rw [up_ne q]; exact (h v).elim Or.inl (fun h1 => Or.inr (hmono _ h1))
  · intro v; exact (h v).elim Or.inl (fun h1 => Or.inr (hmono _ h1))
theorem wB_shA {fr to wt : Nat → Nat} {x m a B K : Nat} (hm : m ≤ 64) (hw : ∀ e, e < m → wt e ≤ K) {p : WSt} (hI : wI fr to wt x m a p) (h : wB B p) : ∀ k, k ≤ m → wB (B + k * (K + K)) (shA fr to wt x k p).1
  | 0, _ => by rw [Nat.zero_mul, Nat.add_zero]; exact h
  | k + 1, hk => by
    have ih := wB_shA hm hw hI h k (by omega)
    have iI := wI_shA hm hI k (by omega)
    have e1 : B + (k + 1) * (K + K) = B + k * (K + K) + K + K := by rw [Nat.succ_mul]; omega
    rw [e1]
    simp only [shA]
    split
    · intro v; exact (ih v).elim Or.inl (fun h1 => Or.inr (by omega))
    · next hx => exact wB_sh (wB_sh ih (fun v => (iI v).1) (hw k (by omega))) (fun v => (wI_sh iI (by omega) hm hx (Or.inl ⟨rfl, rfl⟩) v).1) (hw k (by omega))
theorem wB_skR {fr to wt : Nat → Nat} {x m a K : Nat} (hm : m ≤ 64) (hw : ∀ e, e < m → wt e ≤ K) : ∀ n p B, wI fr to wt x m a p → wB B p → wB (B + n * (m * (K + K))) (skR fr to wt x m n p)
  | 0, p, B, _, h => by rw [Nat.zero_mul, Nat.add_zero]; exact h
  | n + 1, p, B, hI, h => by
    have h1 := wB_shA hm hw hI h m (Nat.le_refl m)
    have e1 : B + (n + 1) * (m * (K + K)) = (B + m * (K + K)) + n * (m * (K + K)) := by rw [Nat.succ_mul]; omega
    rw [e1]
    simp only [skR]
    split
    · exact wB_skR hm hw n _ _ (wI_shA hm hI m (Nat.le_refl m)) h1
    · intro v; exact (h1 v).elim Or.inl (fun q => Or.inr (Nat.le_trans q (Nat.le_add_right _ _)))
theorem sek_near {fr to wt : Nat → Nat} {x m a N : Nat} (hm : m ≤ 40) (hN : N ≤ 16) (hw : ∀ e, e < m → wt e ≤ 1000000000) (v : Nat) : (sek fr to wt x m N a).1 v = 2 ^ 60 ∨ (sek fr to wt x m N a).1 v ≤ 2 ^ 41 := by
  have h := wB_skR (x := x) (a := a) (fr := fr) (to := to) (by omega) hw (N - 1) (sk0 a) 0 wI_0 (fun v => by
    show va_up (fun _ => 2 ^ 60) a 0 v = 2 ^ 60 ∨ va_up (fun _ => 2 ^ 60) a 0 v ≤ 0
    by_cases q : v = a
    · rw [q, up_self]; exact Or.inr (Nat.le_refl _)
    · rw [up_ne q]; exact Or.inl rfl) v
  rcases h with h | h
  · exact Or.inl h
  · refine Or.inr (Nat.le_trans h ?_)
    rw [Nat.zero_add]
    exact Nat.le_trans (Nat.mul_le_mul (show N - 1 ≤ 15 by omega) (Nat.mul_le_mul_right _ hm)) (by decide)
/-- crossings of the cut 'at most t', edge by edge -/
def ci (fr to : Nat → Nat) (d : Nat → Nat) (e t : Nat) : Nat := if (decide (d (fr e) ≤ t) ^^ decide (d (to e) ≤ t)) = true then 1 else 0
def cn (fr to : Nat → Nat) (d : Nat → Nat) (z t : Nat) : Nat → Nat
  | 0 => 0
  | e + 1 => cn fr to d z t e + (if z.testBit e then ci fr to d e t else 0)
theorem sm_ci {fr to d : Nat → Nat} {e w : Nat} (h1 : d (to e) ≤ d (fr e) + w) (h2 : d (fr e) ≤ d (to e) + w) : ∀ D, sm D (fun t => ci fr to d e t) ≤ w := by
  have key : ∀ D, sm D (fun t => ci fr to d e t) ≤ w ∧ sm D (fun t => ci fr to d e t) + min (d (fr e)) (d (to e)) ≤ max D (min (d (fr e)) (d (to e))) ∧ sm D (fun t => ci fr to d e t) ≤ max (d (fr e)) (d (to e)) - min (d (fr e)) (d (to e)) := by
    intro D
    induction D with
    | zero => exact ⟨Nat.zero_le _, by simp [sm], Nat.zero_le _⟩
    | succ D ih =>
      obtain ⟨a, b, c⟩ := ih
      simp only [sm]
      have hci : ci fr to d e D = if (min (d (fr e)) (d (to e)) ≤ D ∧ D < max (d (fr e)) (d (to e))) then 1 else 0 := by
        unfold ci
        by_cases p : d (fr e) ≤ D <;> by_cases q : d (to e) ≤ D
        · rw [if_neg (by simp [p, q]), if_neg (by omega)]
        · rw [if_pos (by simp [p, q]), if_pos (by omega)]
        · rw [if_pos (by simp [p, q]), if_pos (by omega)]
        · rw [if_neg (by simp [p, q]), if_neg (by omega)]
      rw [hci]
      split
      · refine ⟨by omega, by omega, by omega⟩
      · refine ⟨by omega, by omega, by omega⟩
  exact fun D => (key D).1
theorem sm_cn {fr to d wt : Nat → Nat} {z : Nat} (D : Nat) : ∀ m, (∀ e, e < m → z.testBit e = true → d (to e) ≤ d (fr e) + wt e ∧ d (fr e) ≤ d (to e) + wt e) → sm D (fun t => cn fr to d z t m) ≤ wsum wt z m
  | 0, _ => by rw [sm_zero (f := fun t => cn fr to d z t 0) _ (fun _ _ => rfl)]; exact Nat.zero_le _
  | m + 1, h => by
    have ih := sm_cn (fr := fr) (to := to) (d := d) (wt := wt) (z := z) D m (fun e he => h e (by omega))
    show sm D (fun t => cn fr to d z t m + (if z.testBit m then ci fr to d m t else 0)) ≤ wsum wt z m + (if z.testBit m then wt m else 0)
    rw [sm_add]
    cases hb : z.testBit m with
    | false => rw [sm_zero (f := fun t => if false = true then ci fr to d m t else 0) _ (fun _ _ => by simp)]; simp; exact ih
    | true =>
      have := sm_ci (h m (by omega) hb).1 (h m (by omega) hb).2 D
      simp only [if_pos]
      omega
/-- an odd number of crossings is one at least -/
theorem cn_odd {fr to d : Nat → Nat} {z t : Nat} : ∀ m, xs m (fun e => z.testBit e && (decide (d (fr e) ≤ t) ^^ decide (d (to e) ≤ t))) = true → 1 ≤ cn fr to d z t m
  | 0, h => by cases h
  | m + 1, h => by
    simp only [xs] at h
    simp only [cn]
    by_cases q : xs m (fun e => z.testBit e && (decide (d (fr e) ≤ t) ^^ decide (d (to e) ≤ t))) = true
    · have := cn_odd (fr := fr) (to := to) (d := d) (z := z) (t := t) m q; omega
    · rw [bool_f q, Bool.false_xor] at h
      simp only [Bool.and_eq_true] at h
      rw [if_pos h.1]
      unfold ci
      rw [if_pos h.2]; omega
theorem sm_ge {D : Nat} {f : Nat → Nat} {c : Nat} (h : ∀ i, i < D → c ≤ f i) : c * D ≤ sm D f := by
  induction D with
  | zero => simp [sm]
  | succ D ih =>
    have := ih (fun i hi => h i (by omega))
    have := h D (by omega)
    simp only [sm]; rw [Nat.mul_succ]; omega
theorem cr_trim {fr to : Nat → Nat} {m z : Nat} (hm : m ≤ 64) (hz : ∀ e, z.testBit e = true → e < m) (S : Nat → Bool) : cr fr to z S = xs m (fun e => z.testBit e && (S (fr e) ^^ S (to e))) := xs_trim hm (fun i hi _ => by rw [bool_f (fun h => absurd (hz i h) (by omega))]; rfl)
