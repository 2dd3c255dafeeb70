-- trailing zeros, as the library's own method finds them
theorem nm_iushr {z k : Nat} (hz : z < 2 ^ 31) (hk : k < 32) : ((nI z).toUInt32 >>> ((nI k).toUInt32 &&& Int32.toUInt32 31)).toInt32 = nI (z / 2 ^ k) := pk_ushrN (by omega) _ k (s_u k hk)
theorem mk_div {j s : Nat} (h : s ≤ j) : (2 ^ j - 1) / 2 ^ s = 2 ^ (j - s) - 1 := by
  have h1 : 2 ^ j = 2 ^ (j - s) * 2 ^ s := by rw [← Nat.pow_add, show j - s + s = j by omega]
  have h2 := Nat.two_pow_pos s
  have h3 := Nat.two_pow_pos (j - s)
  have e : 2 ^ j - 1 = (2 ^ (j - s) - 1) * 2 ^ s + (2 ^ s - 1) := by rw [h1, Nat.sub_mul, Nat.one_mul]; have := Nat.le_mul_of_pos_left (2 ^ s) h3; omega
  rw [e, Nat.add_comm, Nat.add_mul_div_right _ _ h2, Nat.div_eq_of_lt (by omega), Nat.zero_add]
theorem mk_lt {j : Nat} (h : j ≤ 31) : 2 ^ j - 1 < 2 ^ 31 := by
  have : 2 ^ j ≤ 2 ^ 31 := Nat.pow_le_pow_right (by omega) h
  have := Nat.two_pow_pos j
  omega
/-- the lowest bit of a word of 32: what lies below it -/
theorem nz1 {z t : Nat} (ht : t < 32) (h1 : z.testBit t = true) (h2 : ∀ j, j < t → z.testBit j = false) : (nI z ^^^ (-1)) &&& (nI z - 1) = nI (2 ^ t - 1) := by
  have hpos : 1 ≤ z := Nat.pos_of_ne_zero (fun h => by rw [h, Nat.zero_testBit] at h1; cases h1)
  have e1 : nI z - 1 = nI (z - 1) := pk_sub (b := 1) hpos
  rw [e1]
  apply Int32.toBitVec_inj.1
  show (BitVec.ofNat 32 z ^^^ BitVec.allOnes 32) &&& BitVec.ofNat 32 (z - 1) = BitVec.ofNat 32 (2 ^ t - 1)
  apply BitVec.eq_of_getLsbD_eq
  intro j hj
  simp only [BitVec.getLsbD_and, BitVec.getLsbD_xor, BitVec.getLsbD_ofNat, BitVec.getLsbD_allOnes, hj, decide_true, Bool.true_and]
  rw [pred_bit h1 h2, Nat.testBit_two_pow_sub_one]
  by_cases a : j < t
  · rw [h2 j a, if_pos a]; simp [a]
  · by_cases b : j = t
    · subst b; rw [h1]; simp
    · rw [if_neg a, if_neg b]; cases z.testBit j <;> simp [a]
theorem mk_le : ∀ j, j < 32 → (2 ^ j - 1 ≤ 65536 ↔ j ≤ 16) ∧ (2 ^ j - 1 ≤ 256 ↔ j ≤ 8) ∧ (2 ^ j - 1 ≤ 16 ↔ j ≤ 4) ∧ (2 ^ j - 1 ≤ 4 ↔ j ≤ 2) ∧ (1 ≤ j → j ≤ 2 → (2 ^ j - 1) / 2 = j - 1) := by decide +kernel
/-- a number of 64 bits by its two halves: where the lowest bit is -/
theorem low_lo {z : Nat} (hz : z < 2 ^ 64) (h : nI z ≠ 0) : low z < 32 := by
  have h0 : z ≠ 0 := fun e => h (by rw [e]; rfl)
  refine Classical.byContradiction (fun hn => h ?_)
  obtain ⟨a, b, c⟩ := low_ok h0 hz
  refine b_ext (fun i hi => ?_)
  rw [b_0]
  show (BitVec.ofNat 32 z).getLsbD i = false
  rw [BitVec.getLsbD_ofNat, c i (by omega)]
  simp
theorem low_hi {z : Nat} (h0 : z ≠ 0) (hz : z < 2 ^ 64) (h : nI z = 0) : 32 ≤ low z := by
  obtain ⟨a, b, c⟩ := low_ok h0 hz
  refine Classical.byContradiction (fun hn => ?_)
  have : bt (nI z) (low z) = true := by
    show (BitVec.ofNat 32 z).getLsbD (low z) = true
    rw [BitVec.getLsbD_ofNat, a]; simp; omega
  rw [h, b_0] at this
  cases this
