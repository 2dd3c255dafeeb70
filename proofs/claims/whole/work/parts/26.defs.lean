-- the reference's answers, as numbers
/-- ends of a set's edges at v -/
def dg (fr to : Nat → Nat) (z : Nat) : Nat → Nat → Nat
  | 0, _ => 0
  | e + 1, v => dg fr to z e v + (if z.testBit e then (if fr e = v then 1 else 0) + (if to e = v then 1 else 0) else 0)
theorem dg_le (fr to : Nat → Nat) (z v : Nat) : ∀ m, dg fr to z m v ≤ 2 * m
  | 0 => Nat.le_refl _
  | m + 1 => by
    have := dg_le fr to z v m
    simp only [dg]
    split
    · split <;> split <;> omega
    · omega
abbrev evn (fr to : Nat → Nat) (nv ne z : Nat) : Prop := ∀ v, v < nv → dg fr to z ne v % 2 = 0
abbrev rng (fr to : Nat → Nat) (nv ne z : Nat) : Prop := z ≠ 0 ∧ (∀ v, v < nv → dg fr to z ne v ≤ 2) ∧ (jRun fr to z ne).2.2.1 = 1
theorem nI_b {P : Prop} [Decidable P] : (if P then (1 : Int32) else 0) = nI (if P then 1 else 0) := by split <;> rfl
theorem bll_succ {P : Nat → Prop} {i : Nat} : (∀ v, v < i + 1 → P v) ↔ (∀ v, v < i → P v) ∧ P i :=
  ⟨fun h => ⟨fun v hv => h v (by omega), h i (by omega)⟩, fun h v hv => by
    rcases Nat.lt_or_ge v i with q | q
    · exact h.1 v q
    · have : v = i := by omega
      rw [this]; exact h.2⟩
theorem nm_rem2 {n : Nat} (h : n < 2 ^ 31) : nI n - nI n / 2 * 2 = nI (n % 2) := pk_rem (d := 2) h (by decide) (by decide)
/-- the sum of the rows that make a number smaller -/
def rsn (rows : Nat → Nat) : Nat → Nat → Nat
  | 0, z => z
  | k + 1, z => if rsn rows k z ^^^ rows k < rsn rows k z then rsn rows k z ^^^ rows k else rsn rows k z
/-- the rows, as the reference's cells tell them -/
def rR (rd : Nat) (rows : Nat → Nat) (I : Nat → Int32) (B : Nat → Nat → Int64) : Prop := I 16 = nI rd ∧ rd ≤ 64 ∧ ∀ k, k < rd → B 15 k = lN (rows k) ∧ rows k < 2 ^ 62
theorem xor_lt62 {a b : Nat} (ha : a < 2 ^ 62) (hb : b < 2 ^ 62) : a ^^^ b < 2 ^ 62 := Nat.xor_lt_two_pow ha hb
theorem rsn_lt {rows : Nat → Nat} {z : Nat} (hz : z < 2 ^ 62) : ∀ k, (∀ i, i < k → rows i < 2 ^ 62) → rsn rows k z < 2 ^ 62
  | 0, _ => hz
  | k + 1, h => by
    have ih := rsn_lt hz k (fun i hi => h i (by omega))
    simp only [rsn]
    split
    · exact xor_lt62 ih (h k (by omega))
    · exact ih
/-- what a question leaves as it was: the graph and the list -/
def fP (I : Nat → Int32) (A : Nat → Nat → Int32) (B : Nat → Nat → Int64) (u : sgM) : Prop :=
  (∀ k, k ≠ 0 → k ≠ 10 → k ≠ 16 → u.1 k = I k) ∧ (∀ k, k ≠ 8 → k ≠ 12 → k ≠ 18 → k ≠ 19 → u.2.1 k = A k) ∧ ∀ k, k ≠ 9 → k ≠ 11 → k ≠ 13 → k ≠ 14 → k ≠ 15 → k ≠ 17 → u.2.2 k = B k
theorem fP.of {I I' : Nat → Int32} {A A' : Nat → Nat → Int32} {B B' : Nat → Nat → Int64} (h1 : ∀ k, k ≠ 0 → k ≠ 10 → k ≠ 16 → I' k = I k) (h2 : ∀ k, k ≠ 8 → k ≠ 12 → k ≠ 18 → k ≠ 19 → A' k = A k) (h3 : ∀ k, k ≠ 9 → k ≠ 11 → k ≠ 13 → k ≠ 14 → k ≠ 15 → k ≠ 17 → B' k = B k) : fP I A B (I', A', B') := ⟨h1, h2, h3⟩
theorem fP.rf0 {I I' : Nat → Int32} {A : Nat → Nat → Int32} {B : Nat → Nat → Int64} {v : Int32} (h : I' = va_up I 0 v) : fP I A B (I', A, B) := ⟨fun k h0 _ _ => by rw [h]; exact up_ne h0, fun _ _ _ _ _ => rfl, fun _ _ _ _ _ _ _ => rfl⟩
theorem fP.tr {I I1 : Nat → Int32} {A A1 : Nat → Nat → Int32} {B B1 : Nat → Nat → Int64} {u : sgM} (h : fP I A B (I1, A1, B1)) (h2 : fP I1 A1 B1 u) : fP I A B u :=
  ⟨fun k a b c => (h2.1 k a b c).trans (h.1 k a b c), fun k a b c d => (h2.2.1 k a b c d).trans (h.2.1 k a b c d), fun k a b c d e f => (h2.2.2 k a b c d e f).trans (h.2.2 k a b c d e f)⟩
theorem fJ.fp {I : Nat → Int32} {A : Nat → Nat → Int32} {B : Nat → Nat → Int64} {u : sgM} (h : fJ I A B u) : fP I A B u := ⟨fun k _ b _ => h.1 k b, fun k a b _ _ => h.2.1 k a b, fun k a b _ _ _ _ => h.2.2 k a b⟩
theorem fS.fp {I : Nat → Int32} {A : Nat → Nat → Int32} {B : Nat → Nat → Int64} {u : sgM} (h : fS I A B u) : fP I A B u := ⟨fun k _ b _ => h.1 k b, fun k a b _ _ => h.2.1 k a b, fun k a b c d _ _ => h.2.2 k a b c d⟩
theorem fQ.fp {I : Nat → Int32} {A : Nat → Nat → Int32} {B : Nat → Nat → Int64} {u : sgM} (h : fQ I A B u) : fP I A B u := ⟨fun k a b _ => h.1 k a b, fun k a b _ _ => h.2.1 k a b, fun k a b _ _ _ _ => h.2.2 k a b⟩
theorem gM.fp {nv ne : Nat} {fr to wt : Nat → Nat} {I : Nat → Int32} {A : Nat → Nat → Int32} {B : Nat → Nat → Int64} {u : sgM} (g : gM nv ne fr to wt I A) (h : fP I A B u) : gM nv ne fr to wt u.1 u.2.1 := by
  obtain ⟨g1, g2, g3, g4, g5, g6⟩ := g
  refine ⟨g1, g2, g3, by rw [h.1 1 (by decide) (by decide) (by decide)]; exact g4, by rw [h.1 2 (by decide) (by decide) (by decide)]; exact g5, ?_⟩
  rw [h.2.1 3 (by decide) (by decide) (by decide) (by decide), h.2.1 4 (by decide) (by decide) (by decide) (by decide), h.2.1 5 (by decide) (by decide) (by decide) (by decide)]
  exact g6
theorem nm_set {z k : Nat} (hz : z < 2 ^ 64) (hk : k ≤ 40) : ((lN z).toUInt64 >>> ((nI k).toInt64.toUInt64 &&& Int64.toUInt64 63)).toInt64 = 0 ↔ z < 2 ^ k := by
  rw [wb_shr hz (by omega)]
  have hp : 0 < 2 ^ k := Nat.two_pow_pos k
  have hl : z / 2 ^ k < 2 ^ 64 := Nat.lt_of_le_of_lt (Nat.div_le_self _ _) hz
  constructor
  · intro h
    have h2 : z / 2 ^ k = 0 := by
      have this : (lN (z / 2 ^ k)).toBitVec.toNat = (0 : Int64).toBitVec.toNat := congrArg (fun x => x.toBitVec.toNat) h
      rw [wb_tn hl] at this
      exact this
    rcases Nat.lt_or_ge z (2 ^ k) with q | q
    · exact q
    · have := Nat.div_pos q hp; omega
  · intro h
    rw [Nat.div_eq_of_lt h]; rfl
