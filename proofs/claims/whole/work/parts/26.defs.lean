-- the reference's answers, as numbers
/-- ends of a set's edges at v -/
def dg (fr to : Nat → Nat) (z : Nat) : Nat → Nat → Nat
  | 0, _ => 0
  | e + 1, v => dg fr to z e v + (if z.testBit e then (if fr e = v then 1 else 0) + (if to e = v then 1 else 0) else 0)
theorem dg_le (fr to : Nat → Nat) (z v : Nat) : ∀ m, dg fr to z m v ≤ 2 * m
  | 0 => Nat.le_refl _
  | m + 1 => by
    have := dg_le fr to z v m
    simp only [dg]
    split
    · split <;> split <;> omega
    · omega
abbrev evn (fr to : Nat → Nat) (nv ne z : Nat) : Prop := ∀ v, v < nv → dg fr to z ne v % 2 = 0
abbrev rng (fr to : Nat → Nat) (nv ne z : Nat) : Prop := z ≠ 0 ∧ (∀ v, v < nv → dg fr to z ne v ≤ 2) ∧ (jRun fr to z ne).2.2.1 = 1
theorem nI_b {P : Prop} [Decidable P] : (if P then (1 : Int32) else 0) = nI (if P then 1 else 0) := by split <;> rfl
theorem bll_succ {P : Nat → Prop} {i : Nat} : (∀ v, v < i + 1 → P v) ↔ (∀ v, v < i → P v) ∧ P i :=
  ⟨fun h => ⟨fun v hv => h v (by omega), h i (by omega)⟩, fun h v hv => by
    rcases Nat.lt_or_ge v i with q | q
    · exact h.1 v q
    · have : v = i := by omega
      rw [this]; exact h.2⟩
theorem nm_rem2 {n : Nat} (h : n < 2 ^ 31) : nI n - nI n / 2 * 2 = nI (n % 2) := pk_rem (d := 2) h (by decide) (by decide)
/-- the sum of the rows that make a number smaller -/
def rsn (rows : Nat → Nat) : Nat → Nat → Nat
  | 0, z => z
  | k + 1, z => if rsn rows k z ^^^ rows k < rsn rows k z then rsn rows k z ^^^ rows k else rsn rows k z
/-- the rows, as the reference's cells tell them -/
def rR (rd : Nat) (rows : Nat → Nat) (I : Nat → Int32) (B : Nat → Nat → Int64) : Prop := I 16 = nI rd ∧ rd ≤ 64 ∧ ∀ k, k < rd → B 15 k = lN (rows k) ∧ rows k < 2 ^ 62
theorem xor_lt62 {a b : Nat} (ha : a < 2 ^ 62) (hb : b < 2 ^ 62) : a ^^^ b < 2 ^ 62 := Nat.xor_lt_two_pow ha hb
theorem rsn_lt {rows : Nat → Nat} {z : Nat} (hz : z < 2 ^ 62) : ∀ k, (∀ i, i < k → rows i < 2 ^ 62) → rsn rows k z < 2 ^ 62
  | 0, _ => hz
  | k + 1, h => by
    have ih := rsn_lt hz k (fun i hi => h i (by omega))
    simp only [rsn]
    split
    · exact xor_lt62 ih (h k (by omega))
    · exact ih
