-- the count of bits, as the library's own method finds it
def bq1 (z : Nat) : Nat := bc1 6148914691236517205 z
def bq2 (z : Nat) : Nat := bc2 3689348814741910323 (bq1 z)
def bq3 (z : Nat) : Nat := bc3 1085102592571150095 (bq2 z)
def bq4 (z : Nat) : Nat := bq3 z + bq3 z / 256
def bq5 (z : Nat) : Nat := bq4 z + bq4 z / 65536
def bq6 (z : Nat) : Nat := bq5 z + bq5 z / 4294967296
theorem bq1_le (z : Nat) : bq1 z ≤ z := Nat.sub_le _ _
theorem bq2_lt (z : Nat) : bq2 z < 2 ^ 63 := by
  have h1 : bq1 z &&& 3689348814741910323 ≤ 3689348814741910323 := Nat.and_le_right
  have h2 : bq1 z / 4 &&& 3689348814741910323 ≤ 3689348814741910323 := Nat.and_le_right
  unfold bq2 bc2
  omega
theorem bq3_lt (z : Nat) : bq3 z < 2 ^ 60 := Nat.lt_of_le_of_lt Nat.and_le_right (by decide)
theorem bq4_lt (z : Nat) : bq4 z < 2 ^ 61 := by have := bq3_lt z; unfold bq4; omega
theorem bq5_lt (z : Nat) : bq5 z < 2 ^ 62 := by have := bq4_lt z; unfold bq5; omega
theorem bq6_lt (z : Nat) : bq6 z < 2 ^ 63 := by have := bq5_lt z; unfold bq6; omega
theorem bq6_sz {z : Nat} (hz : z < 2 ^ 64) : bq6 z % 128 = sz z 64 := bc_sum (y3 := bq3 z) (y4 := bq4 z) (y5 := bq5 z) hz (by unfold bq3 bq2 bq1; rw [show mM 15 8 = 1085102592571150095 from by decide +kernel, show mM 51 8 = 3689348814741910323 from by decide +kernel, show mM 85 8 = 6148914691236517205 from by decide +kernel]) rfl rfl rfl
theorem and127 (n : Nat) : nI n &&& 127 = nI (n % 128) := by
  rw [pk_and (nI n) (m := 127) 7 (by decide)]
  show nI ((BitVec.ofNat 32 n).toNat % 2 ^ 7) = _
  rw [BitVec.toNat_ofNat, Nat.mod_mod_of_dvd _ (by decide)]
-- what a set gains by the edges that changed in it
def gn (wt : Nat → Nat) (ch z : Nat) : Nat → Int64
  | 0 => 0
  | k + 1 => if ch.testBit k then (if z.testBit k then gn wt ch z k + lN (wt k) else gn wt ch z k + - lN (wt k)) else gn wt ch z k
theorem gn_skip {wt : Nat → Nat} {ch z P : Nat} : ∀ e, P ≤ e → (∀ j, P ≤ j → j < e → ch.testBit j = false) → gn wt ch z e = gn wt ch z P
  | 0, h, _ => by rw [show P = 0 by omega]
  | e + 1, h, hb => by
    rcases Nat.lt_or_ge e P with q | q
    · rw [show P = e + 1 by omega]
    · simp only [gn]
      rw [if_neg (by rw [hb e q (by omega)]; decide)]
      exact gn_skip e q (fun j a b => hb j a (by omega))
theorem and_low {z : Nat} (h0 : z ≠ 0) (hz : z < 2 ^ 64) : lN z &&& (lN z - 1) = lN (z ^^^ 2 ^ low z) := by
  obtain ⟨a, b, c⟩ := low_ok h0 hz
  have e1 : lN z - 1 = lN (z - 1) := lN_sub (b := 1) (by omega)
  rw [e1, wb_and hz (by omega)]
  congr 1
  refine Nat.eq_of_testBit_eq (fun j => ?_)
  rw [Nat.testBit_and, Nat.testBit_xor, pred_bit a c, pow_bit]
  by_cases h : j < low z
  · rw [if_pos h, c j h]; simp; omega
  · by_cases h2 : j = low z
    · subst h2; rw [a]; simp
    · rw [if_neg h, if_neg h2, bne_of (fun e => h2 e.symm)]; cases z.testBit j <;> rfl
theorem low_drop {z : Nat} (h0 : z ≠ 0) (hz : z < 2 ^ 64) : sz (z ^^^ 2 ^ low z) 64 + 1 = sz z 64 := by
  obtain ⟨a, b, c⟩ := low_ok h0 hz
  refine ct0_drop b a (by rw [Nat.testBit_xor, a, pow_bit]; simp) (fun i hi hn => by rw [Nat.testBit_xor, pow_bit, bne_of (fun e => hn e.symm)]; cases z.testBit i <;> rfl)
theorem sz_pos0 {z : Nat} (hz : z < 2 ^ 64) (h : sz z 64 = 0) : z = 0 := by
  refine Classical.byContradiction (fun h0 => ?_)
  have := low_drop h0 hz
  omega
theorem nm_ineg {w : Nat} (h : w ≤ 1000000000) : (-(nI w)).toInt64 = - lN w := by
  have h1 : (nI w).toInt = (w : Int) := nI_toInt (by omega)
  have h2 : (lN w).toInt = (w : Int) := pk_lT (by omega)
  apply Int64.toInt_inj.1
  rw [Int32.toInt_toInt64, Int32.toInt_neg, Int64.toInt_neg, h1, h2]
  simp only [Int.bmod]
  omega
