-- the class's list; what a filling of the rings leaves as it was; Gray's order
def apn (row : Nat → Nat) (z : Nat) : Nat → Nat := if rst row 40 z = 0 then row else va_up row (low (rst row 40 z)) (rst row 40 z)
def apk (row : Nat → Nat) (rk2 z : Nat) : Nat := if rst row 40 z = 0 then rk2 else rk2 + 1
def fF (I : Nat → Int32) (A : Nat → Nat → Int32) (B : Nat → Nat → Int64) (C : Nat → Nat → Int32) (T : Nat → Nat → Int64) (u : sgH) : Prop :=
  (∀ k, k ≠ 4 → k ≠ 5 → u.1 k = I k) ∧ (∀ k, k ≠ 8 → u.2.1 k = A k) ∧ (∀ k, k ≠ 9 → k ≠ 20 → u.2.2.1 k = B k) ∧ u.2.2.2.1 = C ∧ u.2.2.2.2 = T
theorem gH.ff {nv ne : Nat} {fr to wt : Nat → Nat} {I : Nat → Int32} {A : Nat → Nat → Int32} {B : Nat → Nat → Int64} {C : Nat → Nat → Int32} {T : Nat → Nat → Int64} {u : sgH} (g : gH nv ne fr to wt I A) (h : fF I A B C T u) : gH nv ne fr to wt u.1 u.2.1 := by
  obtain ⟨g1, g2, g3, g4, g5, g6⟩ := g
  refine ⟨g1, g2, g3, by rw [h.1 0 (by decide) (by decide)]; exact g4, by rw [h.1 1 (by decide) (by decide)]; exact g5, ?_⟩
  rw [h.2.1 2 (by decide), h.2.1 3 (by decide), h.2.1 4 (by decide)]
  exact g6
/-- what some of the first d sets have -/
def orS (r : Nat → Nat) : Nat → Nat
  | 0 => 0
  | d + 1 => orS r d ||| r d
theorem orS_lt {r : Nat → Nat} {m : Nat} : ∀ d, (∀ i, i < d → r i < 2 ^ m) → orS r d < 2 ^ m
  | 0, _ => Nat.two_pow_pos m
  | d + 1, h => Nat.or_lt_two_pow (orS_lt d (fun i hi => h i (by omega))) (h d (by omega))
theorem orS_bit {r : Nat → Nat} {e : Nat} : ∀ d, (orS r d).testBit e = false ↔ ∀ i, i < d → (r i).testBit e = false
  | 0 => by simp [orS]
  | d + 1 => by
    show (orS r d ||| r d).testBit e = false ↔ _
    rw [Nat.testBit_or, Bool.or_eq_false_iff, orS_bit d]
    constructor
    · rintro ⟨h1, h2⟩ i hi
      rcases Nat.lt_or_ge i d with q | q
      · exact h1 i q
      · rw [show i = d by omega]; exact h2
    · exact fun h => ⟨fun i hi => h i (by omega), h d (by omega)⟩
theorem sz_le2 {z m : Nat} (hm : m ≤ 64) (h : z < 2 ^ m) : sz z 64 = sz z m := by
  have := ct0_split (fun e => z.testBit e) m (64 - m)
  rw [show m + (64 - m) = 64 by omega] at this
  unfold sz
  rw [this, ct0_zero (n := 64 - m) (fun i hi => Nat.testBit_lt_two_pow (Nat.lt_of_lt_of_le h (Nat.pow_le_pow_right (by omega) (by omega)))), Nat.add_zero]
/-- Gray's order: the set behind step t -/
def gS (r : Nat → Nat) : Nat → Nat
  | 0 => 0
  | t + 1 => gS r t ^^^ r (low (t + 1))
theorem gn_step {wt : Nat → Nat} {s r : Nat} : ∀ k, lN (wsum wt s k) + gn wt r (s ^^^ r) k = lN (wsum wt (s ^^^ r) k)
  | 0 => rfl
  | k + 1 => by
    have ih := gn_step (wt := wt) (s := s) (r := r) k
    simp only [gn, wsum]
    rw [Nat.testBit_xor] at *
    rw [← lN_add, ← lN_add (wsum wt (s ^^^ r) k), ← ih]
    cases h1 : s.testBit k <;> cases h2 : r.testBit k <;> simp <;> (first | (rw [show lN 0 = 0 from rfl]; grind) | grind)
theorem low_lt {k d : Nat} (h0 : k ≠ 0) (hd : d ≤ 64) (h : k < 2 ^ d) : low k < d := by
  have h64 : k < 2 ^ 64 := Nat.lt_of_lt_of_le h (Nat.pow_le_pow_right (by omega) hd)
  obtain ⟨a, b, c⟩ := low_ok h0 h64
  refine Classical.byContradiction (fun hn => ?_)
  rw [Nat.testBit_lt_two_pow (Nat.lt_of_lt_of_le h (Nat.pow_le_pow_right (by omega) (by omega)))] at a
  cases a
theorem gS_lt {r : Nat → Nat} {d m : Nat} (hd : d ≤ 64) (h : ∀ i, i < d → r i < 2 ^ m) : ∀ t, t < 2 ^ d → gS r t < 2 ^ m
  | 0, _ => Nat.two_pow_pos m
  | t + 1, ht => Nat.xor_lt_two_pow (gS_lt hd h t (by omega)) (h _ (low_lt (by omega) hd ht))
theorem rgA_lt {nv ne : Nat} {fr to wt : Nat → Nat} {I : Nat → Int32} {A : Nat → Nat → Int32} (g : gH nv ne fr to wt I A) : ∀ i, i < dmA fr to ne → rgA fr to ne i < 2 ^ ne := fun i hi =>
  Nat.lt_pow_two_of_testBit _ (fun e he => bool_f (fun h => by have := (((jA (by have := g.2.2.1; omega) g.en).2.2.2.2.1 i hi).2.2.2.1 e h).1; omega))
theorem lg_nle {x w : Int64} (h : x ≤ w) : ¬ w < x := fun h2 => by
  rw [Int64.le_iff_toInt_le] at h; rw [Int64.lt_iff_toInt_lt] at h2; omega
theorem lg_le {x w : Int64} (h : ¬ w < x) : x ≤ w := by
  rw [Int64.lt_iff_toInt_lt] at h; rw [Int64.le_iff_toInt_le]; omega
