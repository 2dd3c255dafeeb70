-- whole numbers in long cells; a table; elimination
abbrev iL (x : Int) : Int64 := Int64.ofInt x
def mup (M : Nat → Nat → Int) (a b : Nat) (x : Int) : Nat → Nat → Int := fun i j => if i = a ∧ j = b then x else M i j
/-- a table of sixteen by sixteen, row behind row -/
def rM (f : Nat → Int64) (M : Nat → Nat → Int) : Prop := ∀ i j, i < 16 → j < 16 → f (16 * i + j) = iL (M i j)
theorem rM_up {f : Nat → Int64} {M : Nat → Nat → Int} (h : rM f M) {a b k : Nat} (hb : b < 16) (hk : k = 16 * a + b) (x : Int) : rM (vp_updL f k (iL x)) (mup M a b x) := by
  intro i j hi hj
  unfold mup
  by_cases e : i = a ∧ j = b
  · rw [if_pos e, e.1, e.2, ← hk, pk_uLs]
  · rw [if_neg e, pk_uLn (by rw [hk]; intro h2; apply e; omega)]; exact h i j hi hj
def layM (po qo : Option Nat) (M : Nat → Nat → Int) : Nat → Nat → Int := match po, qo with
  | none, none => M
  | some a, none => mup M a a (M a a + 1)
  | none, some b => mup M b b (M b b + 1)
  | some a, some b => mup (mup (mup (mup M a a (M a a + 1)) b b (mup M a a (M a a + 1) b b + 1)) a b (mup (mup M a a (M a a + 1)) b b (mup M a a (M a a + 1) b b + 1) a b - 1)) b a (mup (mup (mup M a a (M a a + 1)) b b (mup M a a (M a a + 1) b b + 1)) a b (mup (mup M a a (M a a + 1)) b b (mup M a a (M a a + 1) b b + 1) a b - 1) b a - 1)
/-- one step of the elimination, and the pivot behind it -/
def bs (n : Nat) (M : Nat → Nat → Int) : Nat → (Nat → Nat → Int) × Int
  | 0 => (M, 1)
  | k + 1 => (fun i j => if k < i ∧ k < j ∧ i < n ∧ j < n then ((bs n M k).1 i j * (bs n M k).1 k k - (bs n M k).1 i k * (bs n M k).1 k j).tdiv (bs n M k).2 else (bs n M k).1 i j, (bs n M k).1 k k)
/-- nothing overflows, no divisor is 0 -/
def bC (n : Nat) (M : Nat → Nat → Int) : Prop := ∀ k, k < n → ((bs n M k).2 ≠ 0 ∧ -2147483648 < (bs n M k).2 ∧ (bs n M k).2 < 2147483648) ∧ ∀ i j, i < n → j < n → -2147483648 < (bs n M k).1 i j ∧ (bs n M k).1 i j < 2147483648
theorem mul_b {a b : Int} (h1 : -2147483648 < a) (h2 : a < 2147483648) (h3 : -2147483648 < b) (h4 : b < 2147483648) : -4611686014132420609 ≤ a * b ∧ a * b ≤ 4611686014132420609 := by
  have ha : a.natAbs ≤ 2147483647 := by omega
  have hb : b.natAbs ≤ 2147483647 := by omega
  have h : (a * b).natAbs ≤ 2147483647 * 2147483647 := by rw [Int.natAbs_mul]; exact Nat.mul_le_mul ha hb
  omega
theorem iL_div {x y : Int} (h1 : -9223372036854775808 < x) (h2 : x < 9223372036854775808) (h3 : y ≠ 0) (h4 : -2147483648 < y) (h5 : y < 2147483648) : iL x / iL y = iL (x.tdiv y) := by
  apply Int64.toInt_inj.mp
  have ex : (iL x).toInt = x := Int64.toInt_ofInt_of_le (by omega) (by omega)
  have ey : (iL y).toInt = y := Int64.toInt_ofInt_of_le (by omega) (by omega)
  rw [Int64.toInt_div_of_ne_left _ _ (fun h => by
    have := congrArg Int64.toInt h
    rw [ex] at this
    have h6 : Int64.minValue.toInt = -9223372036854775808 := by decide
    omega), ex, ey]
  have hd : (x.tdiv y).natAbs ≤ x.natAbs := by rw [Int.natAbs_tdiv]; exact Nat.div_le_self _ _
  exact (Int64.toInt_ofInt_of_le (by omega) (by omega)).symm
theorem iL_ne {y : Int} (h3 : y ≠ 0) (h4 : -2147483648 < y) (h5 : y < 2147483648) : ¬ iL y = 0 := fun h => by
  have := congrArg Int64.toInt h
  rw [show (iL y).toInt = y from Int64.toInt_ofInt_of_le (by omega) (by omega)] at this
  exact h3 this
theorem iL_1 (x : Int) : iL x + 1 = iL (x + 1) := (Int64.ofInt_add x 1).symm
theorem iL_m1 (x : Int) : iL x - 1 = iL (x - 1) := (Int64.ofInt_sub x 1).symm
theorem iL_mul (x y : Int) : iL x * iL y = iL (x * y) := (Int64.ofInt_mul x y).symm
theorem iL_sub (x y : Int) : iL x - iL y = iL (x - y) := (Int64.ofInt_sub x y).symm
/-- in the midst of a step: rows above i, and of row i the places before j, are new -/
def stM (n : Nat) (T : Nat → Nat → Int) (b : Int) (k i j : Nat) : Nat → Nat → Int := fun x y => if (k < x ∧ k < y ∧ x < n ∧ y < n) ∧ (x < i ∨ (x = i ∧ y < j)) then (T x y * T k k - T x k * T k y).tdiv b else T x y
theorem stM_0 {n : Nat} {T : Nat → Nat → Int} {b : Int} {k : Nat} : stM n T b k (k + 1) (k + 1) = T := by
  funext x y; unfold stM; rw [if_neg (by omega)]
theorem stM_up {n : Nat} {T : Nat → Nat → Int} {b : Int} {k i j : Nat} (h1 : k < i) (h2 : k < j) (h3 : i < n) (h4 : j < n) : mup (stM n T b k i j) i j ((T i j * T k k - T i k * T k j).tdiv b) = stM n T b k i (j + 1) := by
  funext x y
  unfold mup stM
  by_cases e : x = i ∧ y = j
  · rw [if_pos e, if_pos (by omega), e.1, e.2]
  · rw [if_neg e]
    by_cases q : (k < x ∧ k < y ∧ x < n ∧ y < n) ∧ (x < i ∨ (x = i ∧ y < j))
    · rw [if_pos q, if_pos (by omega)]
    · rw [if_neg q, if_neg (by omega)]
theorem stM_row {n : Nat} {T : Nat → Nat → Int} {b : Int} {k i : Nat} : stM n T b k i n = stM n T b k (i + 1) (k + 1) := by
  funext x y
  unfold stM
  by_cases q : (k < x ∧ k < y ∧ x < n ∧ y < n) ∧ (x < i ∨ (x = i ∧ y < n))
  · rw [if_pos q, if_pos (by omega)]
  · rw [if_neg q, if_neg (by omega)]
theorem stM_end {n : Nat} {M : Nat → Nat → Int} {k : Nat} : stM n (bs n M k).1 (bs n M k).2 k n (k + 1) = (bs n M (k + 1)).1 := by
  funext x y
  show (if (k < x ∧ k < y ∧ x < n ∧ y < n) ∧ (x < n ∨ (x = n ∧ y < k + 1)) then _ else _) = (if k < x ∧ k < y ∧ x < n ∧ y < n then _ else _)
  by_cases q : k < x ∧ k < y ∧ x < n ∧ y < n
  · rw [if_pos (by omega), if_pos q]
  · rw [if_neg (by omega), if_neg q]
theorem stM_ij {n : Nat} {T : Nat → Nat → Int} {b : Int} {k i j : Nat} : stM n T b k i j i j = T i j := by unfold stM; rw [if_neg (by omega)]
theorem stM_k1 {n : Nat} {T : Nat → Nat → Int} {b : Int} {k i j x : Nat} : stM n T b k i j x k = T x k := by unfold stM; rw [if_neg (by omega)]
theorem stM_k2 {n : Nat} {T : Nat → Nat → Int} {b : Int} {k i j y : Nat} : stM n T b k i j k y = T k y := by unfold stM; rw [if_neg (by omega)]
