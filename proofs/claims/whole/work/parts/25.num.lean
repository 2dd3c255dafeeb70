-- numbers of the machine, for the walks
theorem nm_shr {z k : Nat} (hz : z < 2 ^ 62) (hk : k < 64) : lN z >>> ((nI k).toInt64 &&& 63) = lN (z / 2 ^ k) := by
  refine pf_shr ?_ hz
  rw [wb_c k hk, wb_tb, wb_sm k hk]
  rw [BitVec.toNat_ofNat]
  exact Nat.mod_eq_of_lt (by omega)
theorem nm_bit {z k : Nat} (hz : z < 2 ^ 62) (hk : k < 64) : (lN z >>> ((nI k).toInt64 &&& 63)) &&& 1 = lN (z / 2 ^ k % 2) := by
  rw [nm_shr hz hk]
  exact wb_a1 (Nat.lt_of_le_of_lt (Nat.div_le_self _ _) (by omega))
theorem nm_tb (z k : Nat) : z / 2 ^ k % 2 = if z.testBit k then 1 else 0 := by
  rw [Nat.testBit_eq_decide_div_mod_eq]
  by_cases h : z / 2 ^ k % 2 = 1
  · simp [h]
  · have : z / 2 ^ k % 2 < 2 := Nat.mod_lt _ (by omega)
    simp [h]; omega
theorem nm_bit1 {z k : Nat} (hz : z < 2 ^ 62) (hk : k < 64) : (lN z >>> ((nI k).toInt64 &&& 63)) &&& 1 = 1 ↔ z.testBit k = true := by
  rw [nm_bit hz hk, nm_tb]
  cases z.testBit k <;> simp <;> decide
theorem nm_bit0 {z k : Nat} (hz : z < 2 ^ 62) (hk : k < 64) : (lN z >>> ((nI k).toInt64 &&& 63)) &&& 1 = 0 ↔ z.testBit k = false := by
  rw [nm_bit hz hk, nm_tb]
  cases z.testBit k <;> simp <;> decide
theorem nm_ubit0 {z k : Nat} (hz : z < 2 ^ 64) (hk : k < 64) : ((lN z).toUInt64 >>> ((nI k).toInt64.toUInt64 &&& Int64.toUInt64 63)).toInt64 &&& 1 = 0 ↔ z.testBit k = false := by
  rw [wb_bit hz hk, nm_tb]
  cases z.testBit k <;> simp <;> decide
theorem nm_pow {k : Nat} (hk : k < 64) : (1 : Int64) <<< ((nI k).toInt64 &&& 63) = lN (2 ^ k) := by
  have := wb_shl 1 hk
  rw [Nat.one_mul] at this
  exact this
theorem nm_il {w : Nat} (h : w < 2 ^ 31) : (nI w).toInt64 = lN w := nI_l h
/-- the weight of the edges below m of a set -/
def wsum (wt : Nat → Nat) (z : Nat) : Nat → Nat
  | 0 => 0
  | e + 1 => wsum wt z e + (if z.testBit e then wt e else 0)
/-- the graph that the reference's cells tell -/
def gM (nv ne : Nat) (fr to wt : Nat → Nat) (I : Nat → Int32) (A : Nat → Nat → Int32) : Prop :=
  1 ≤ nv ∧ nv ≤ 16 ∧ ne ≤ 40 ∧ I 1 = nI nv ∧ I 2 = nI ne ∧ ∀ e, e < ne → (A 3 e = nI (fr e) ∧ fr e < nv) ∧ (A 4 e = nI (to e) ∧ to e < nv) ∧ A 5 e = nI (wt e) ∧ wt e ≤ 1000000000
/-- names of groups and ways, as cells tell them -/
def rG (N : Nat) (g : Nat → Nat) (f : Nat → Int32) : Prop := ∀ v, v < N → f v = nI (g v) ∧ g v < N
def rW (N : Nat) (w : Nat → Nat) (f : Nat → Int64) : Prop := ∀ v, v < N → f v = lN (w v)
