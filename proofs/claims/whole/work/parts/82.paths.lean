-- counting by one-to-one maps
theorem ct0_inj {m : Nat} {φ : Nat → Nat} : ∀ {n : Nat} {f g : Nat → Bool}, (∀ i, i < n → f i = true → φ i < m ∧ g (φ i) = true) → (∀ i j, i < n → j < n → f i = true → f j = true → φ i = φ j → i = j) → ct0 n f ≤ ct0 m g
  | 0, _, _, _, _ => Nat.zero_le _
  | n + 1, f, g, h1, h2 => by
    cases hf : f n with
    | false => rw [ct0_f hf]; exact ct0_inj (fun i hi => h1 i (by omega)) (fun i j hi hj => h2 i j (by omega) (by omega))
    | true =>
      obtain ⟨a, b⟩ := h1 n (by omega) hf
      have := ct0_inj (n := n) (f := f) (g := fun k => g k && k != φ n) (φ := φ) (m := m) (fun i hi hfi => ⟨(h1 i (by omega) hfi).1, by
        have ne : φ i ≠ φ n := fun e => by have := h2 i n (by omega) (by omega) hfi hf e; omega
        simp [(h1 i (by omega) hfi).2, ne]⟩) (fun i j hi hj => h2 i j (by omega) (by omega))
      have hd := ct0_drop (f := g) (g := fun k => g k && k != φ n) a b (by simp) (fun i _ hne => by simp [hne])
      rw [ct0_t hf]; omega
theorem ct0_bij {n m : Nat} {f g : Nat → Bool} (φ ψ : Nat → Nat) (h1 : ∀ i, i < n → f i = true → φ i < m ∧ g (φ i) = true ∧ ψ (φ i) = i) (h2 : ∀ j, j < m → g j = true → ψ j < n ∧ f (ψ j) = true ∧ φ (ψ j) = j) : ct0 n f = ct0 m g :=
  Nat.le_antisymm
    (ct0_inj (φ := φ) (fun i hi hf => ⟨(h1 i hi hf).1, (h1 i hi hf).2.1⟩) (fun i j hi hj hf hg e => by rw [← (h1 i hi hf).2.2, ← (h1 j hj hg).2.2, e]))
    (ct0_inj (φ := ψ) (fun i hi hf => ⟨(h2 i hi hf).1, (h2 i hi hf).2.1⟩) (fun i j hi hj hf hg e => by rw [← (h2 i hi hf).2.2, ← (h2 j hj hg).2.2, e]))
theorem ct0_perm {n : Nat} {φ : Nat → Nat} {f : Nat → Bool} (h1 : ∀ i, i < n → φ i < n) (h2 : ∀ i j, i < n → j < n → φ i = φ j → i = j) : ct0 n (fun i => f (φ i)) = ct0 n f := by
  have a := ct0_inj (n := n) (m := n) (φ := φ) (f := fun i => f (φ i)) (g := f) (fun i hi h => ⟨h1 i hi, h⟩) (fun i j hi hj _ _ => h2 i j hi hj)
  have b := ct0_inj (n := n) (m := n) (φ := φ) (f := fun i => !f (φ i)) (g := fun i => !f i) (fun i hi h => ⟨h1 i hi, h⟩) (fun i j hi hj _ _ => h2 i j hi hj)
  have c := ct_not n (fun i => f (φ i))
  have d := ct_not n f
  omega
-- Gray's order
def gyc (t : Nat) : Nat := t ^^^ (t / 2)
theorem gyc_bit (t j : Nat) : (gyc t).testBit j = (t.testBit j ^^ t.testBit (j + 1)) := by
  unfold gyc; rw [Nat.testBit_xor, Nat.testBit_div_two]
theorem gyc_s {t : Nat} (h : t + 1 < 2 ^ 64) : gyc (t + 1) = gyc t ^^^ 2 ^ low (t + 1) := by
  obtain ⟨a, b, c⟩ := low_ok (Nat.succ_ne_zero t) h
  apply Nat.eq_of_testBit_eq
  intro j
  have p : ∀ i, t.testBit i = (if i < low (t + 1) then true else if i = low (t + 1) then false else (t + 1).testBit i) := fun i => pred_bit (z := t + 1) a c i
  rw [gyc_bit, Nat.testBit_xor, gyc_bit, Nat.testBit_two_pow, p j, p (j + 1)]
  have a1 : (t + 1).testBit (low (t + 1)) = true := a
  generalize low (t + 1) = L at *
  rcases Nat.lt_trichotomy j L with q | q | q
  · rw [c j q, if_pos q]
    rcases Nat.lt_or_ge (j + 1) L with q2 | q2
    · rw [c (j + 1) q2, if_pos q2]; simp; omega
    · have : j + 1 = L := by omega
      rw [this, a1, if_neg (by omega), if_pos rfl]; simp; omega
  · subst q
    rw [a1, if_neg (by omega), if_pos rfl, if_neg (by omega), if_neg (by omega)]; simp
  · rw [if_neg (by omega), if_neg (by omega), if_neg (by omega), if_neg (by omega)]
    have : (decide (L = j)) = false := decide_eq_false (by omega)
    rw [this]; simp
theorem gyc_inj {x y : Nat} (hx : x < 2 ^ 64) (hy : y < 2 ^ 64) (h : gyc x = gyc y) : x = y := by
  have key : ∀ d j, 64 ≤ j + d → x.testBit j = y.testBit j := by
    intro d; induction d with
    | zero => intro j hj; have hj : 64 ≤ j := hj; rw [Nat.testBit_lt_two_pow (Nat.lt_of_lt_of_le hx (Nat.pow_le_pow_right (by omega) hj)), Nat.testBit_lt_two_pow (Nat.lt_of_lt_of_le hy (Nat.pow_le_pow_right (by omega) hj))]
    | succ d ih =>
      intro j hj
      have h1 := ih (j + 1) (by omega)
      have h2 := congrArg (fun z => Nat.testBit z j) h
      have h2 : (gyc x).testBit j = (gyc y).testBit j := h2
      rw [gyc_bit, gyc_bit, h1] at h2
      revert h2
      cases x.testBit j <;> cases y.testBit j <;> cases y.testBit (j + 1) <;> simp
  exact Nat.eq_of_testBit_eq (fun j => key 64 j (by omega))
theorem gyc_lt {t d : Nat} (h : t < 2 ^ d) : gyc t < 2 ^ d := Nat.xor_lt_two_pow h (Nat.lt_of_le_of_lt (Nat.div_le_self _ _) h)
theorem gS_cb {r : Nat → Nat} {d : Nat} (hd : d ≤ 63) : ∀ t, t < 2 ^ d → gS r t = cb r d (gyc t)
  | 0, _ => by show 0 = cb r d 0; rw [cb_0]
  | t + 1, h => by
    have h64 : t + 1 < 2 ^ 64 := Nat.lt_of_lt_of_le h (Nat.pow_le_pow_right (by omega) (by omega))
    show gS r t ^^^ r (low (t + 1)) = _
    rw [gyc_s h64, cb_xor, cb_pow r (low_lt (by omega) (by omega) h), gS_cb hd t (by omega)]
theorem light_tie {fr to wt : Nat → Nat} {ne : Nat} {w : Int64} (hd : dmA fr to ne ≤ 14) : ct0 (2 ^ dmA fr to ne) (fun j => decide (lN (wsum wt (gS (rgA fr to ne) j) ne) ≤ w)) = ct0 (2 ^ dmA fr to ne) (fun c => decide (lN (wsum wt (elA fr to ne c) ne) ≤ w)) := by
  have hd2 : dmA fr to ne ≤ 63 := Nat.le_trans hd (by decide)
  rw [ct0_congr (g := fun j => decide (lN (wsum wt (elA fr to ne (gyc j)) ne) ≤ w)) (fun j hj => by rw [gS_cb hd2 j hj])]
  have p64 : ∀ {x}, x < 2 ^ dmA fr to ne → x < 2 ^ 64 := fun h => Nat.lt_of_lt_of_le h (Nat.pow_le_pow_right (by omega) (Nat.le_trans hd (by decide)))
  exact ct0_perm (φ := gyc) (f := fun c => decide (lN (wsum wt (elA fr to ne c) ne) ≤ w)) (fun i hi => gyc_lt hi) (fun i j hi hj e => gyc_inj (p64 hi) (p64 hj) e)
