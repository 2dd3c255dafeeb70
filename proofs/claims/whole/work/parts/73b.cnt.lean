def mM (q : Nat) : Nat → Nat
  | 0 => 0
  | n + 1 => q + 256 * mM q n
def bc1 (M z : Nat) : Nat := z - (z / 2 &&& M)
def bc2 (M z : Nat) : Nat := (z &&& M) + (z / 4 &&& M)
def bc3 (M z : Nat) : Nat := z + z / 16 &&& M
theorem bc_t1 : ∀ b, b < 256 → ∀ e, e < 2 → (b / 2 + 128 * e) &&& 85 = b / 2 &&& 85 := by decide +kernel
theorem bc_t2 : ∀ b, b < 256 → ∀ e, e < 4 → (b / 4 + 64 * e) &&& 51 = b / 4 &&& 51 := by decide +kernel
theorem bc_t3 : ∀ b, b < 256 → ∀ e, e < 5 → ((bc2 51 (bc1 85 b) + bc2 51 (bc1 85 b) / 16 + 16 * e) &&& 15) = sz b 8 ∧ bc2 51 (bc1 85 b) + bc2 51 (bc1 85 b) / 16 + 16 * e < 256 ∧ bc2 51 (bc1 85 b) % 16 ≤ 4 ∧ bc1 85 b < 256 ∧ sz b 8 ≤ 8 ∧ bc2 51 (bc1 85 b) < 256 := by decide +kernel
theorem bc1_cat {b z M : Nat} (hb : b < 256) : bc1 (85 + 256 * M) (b + 256 * z) = bc1 85 b + 256 * bc1 M z := by
  unfold bc1
  rw [show (b + 256 * z) / 2 = (b / 2 + 128 * (z % 2)) + 256 * (z / 2) by omega, and_cat (by omega) (by omega), bc_t1 b hb _ (by omega)]
  have h1 : b / 2 &&& 85 ≤ b / 2 := Nat.and_le_left
  have h2 : z / 2 &&& M ≤ z / 2 := Nat.and_le_left
  omega
theorem bc2_cat {b z M : Nat} (hb : b < 256) : bc2 (51 + 256 * M) (b + 256 * z) = bc2 51 b + 256 * bc2 M z := by
  unfold bc2
  rw [show (b + 256 * z) / 4 = (b / 4 + 64 * (z % 4)) + 256 * (z / 4) by omega, and_cat (by omega) (by omega), and_cat (by omega) (by omega), bc_t2 b hb _ (by omega)]
  omega
def cnt8 : Nat → Nat → Nat
  | 0, _ => 0
  | n + 1, z => sz (z % 256) 8 + 256 * cnt8 n (z / 256)
theorem bc_all : ∀ n z, z < 256 ^ n → bc2 (mM 51 n) (bc1 (mM 85 n) z) % 16 ≤ 4 ∧ bc3 (mM 15 n) (bc2 (mM 51 n) (bc1 (mM 85 n) z)) = cnt8 n z
  | 0, z, h => by
    have : z = 0 := by rw [Nat.pow_zero] at h; omega
    subst this
    exact ⟨by decide, by decide⟩
  | n + 1, z, h => by
    have hz : z / 256 < 256 ^ n := Nat.div_lt_of_lt_mul (by rw [Nat.pow_succ] at h; omega)
    obtain ⟨i1, i2⟩ := bc_all n (z / 256) hz
    have hb : z % 256 < 256 := Nat.mod_lt _ (by decide)
    have e : z = z % 256 + 256 * (z / 256) := by omega
    have e2 : bc2 (mM 51 (n + 1)) (bc1 (mM 85 (n + 1)) z) = bc2 51 (bc1 85 (z % 256)) + 256 * bc2 (mM 51 n) (bc1 (mM 85 n) (z / 256)) := by
      show bc2 (51 + 256 * mM 51 n) (bc1 (85 + 256 * mM 85 n) z) = _
      have e3 : bc1 (85 + 256 * mM 85 n) z = bc1 85 (z % 256) + 256 * bc1 (mM 85 n) (z / 256) := by
        have := bc1_cat (b := z % 256) (z := z / 256) (M := mM 85 n) hb
        rw [← e] at this
        exact this
      rw [e3, bc2_cat (bc_t3 _ hb 0 (by decide)).2.2.2.1]
    generalize hy : bc2 (mM 51 n) (bc1 (mM 85 n) (z / 256)) = y at i1 i2 e2
    have t0 := bc_t3 _ hb 0 (by decide)
    have te := bc_t3 _ hb (y % 16) (by omega)
    refine ⟨by rw [e2]; omega, ?_⟩
    rw [e2]
    unfold bc3 at i2 ⊢
    show _ &&& (15 + 256 * mM 15 n) = _
    generalize bc2 51 (bc1 85 (z % 256)) = x at t0 te
    rw [show x + 256 * y + (x + 256 * y) / 16 = (x + x / 16 + 16 * (y % 16)) + 256 * (y + y / 16) by omega, and_cat te.2.1 (by decide), te.1, i2]
    rfl
