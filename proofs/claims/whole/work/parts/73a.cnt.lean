-- the count of bits
theorem ct0_split (f : Nat → Bool) (a : Nat) : ∀ b, ct0 (a + b) f = ct0 a f + ct0 b (fun i => f (a + i))
  | 0 => rfl
  | b + 1 => by
    have := ct0_split f a b
    show ct0 (a + b) f + (if f (a + b) then 1 else 0) = ct0 a f + (ct0 b (fun i => f (a + i)) + (if f (a + b) then 1 else 0))
    rw [this, Nat.add_assoc]
theorem sz_cat (z n : Nat) : sz z (8 + n) = sz (z % 256) 8 + sz (z / 256) n := by
  unfold sz
  rw [ct0_split]
  congr 1
  · refine ct0_congr (fun i hi => ?_)
    have := Nat.testBit_mod_two_pow z 8 i
    rw [show (256 : Nat) = 2 ^ 8 from rfl, this]; simp [hi]
  · refine ct0_congr (fun i hi => ?_)
    rw [show (256 : Nat) = 2 ^ 8 from rfl, Nat.testBit_div_two_pow]
    congr 1 <;> omega
theorem and_cat {a b x y : Nat} (ha : a < 256) (hb : b < 256) : (a + 256 * x) &&& (b + 256 * y) = (a &&& b) + 256 * (x &&& y) := by
  have e1 : ∀ p q : Nat, p + 256 * q = 2 ^ 8 * q + p := fun p q => Nat.add_comm _ _
  have h3 : a &&& b < 2 ^ 8 := Nat.and_lt_two_pow _ hb
  rw [e1, e1, e1]
  refine Nat.eq_of_testBit_eq (fun j => ?_)
  rw [Nat.testBit_and, Nat.testBit_two_pow_mul_add _ (show a < 2 ^ 8 from ha), Nat.testBit_two_pow_mul_add _ (show b < 2 ^ 8 from hb), Nat.testBit_two_pow_mul_add _ h3]
  by_cases h : j < 8
  · rw [if_pos h, if_pos h, if_pos h, Nat.testBit_and]
  · rw [if_neg h, if_neg h, if_neg h, Nat.testBit_and]
