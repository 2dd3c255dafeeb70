-- the reference's answers, as numbers
/-- ends of a set's edges at v -/
def dg (fr to : Nat → Nat) (z : Nat) : Nat → Nat → Nat
  | 0, _ => 0
  | e + 1, v => dg fr to z e v + (if z.testBit e then (if fr e = v then 1 else 0) + (if to e = v then 1 else 0) else 0)
theorem dg_le (fr to : Nat → Nat) (z v : Nat) : ∀ m, dg fr to z m v ≤ 2 * m
  | 0 => Nat.le_refl _
  | m + 1 => by
    have := dg_le fr to z v m
    simp only [dg]
    split
    · split <;> split <;> omega
    · omega
abbrev evn (fr to : Nat → Nat) (nv ne z : Nat) : Prop := ∀ v, v < nv → dg fr to z ne v % 2 = 0
abbrev rng (fr to : Nat → Nat) (nv ne z : Nat) : Prop := z ≠ 0 ∧ (∀ v, v < nv → dg fr to z ne v ≤ 2) ∧ (jRun fr to z ne).2.2.1 = 1
theorem nI_b {P : Prop} [Decidable P] : (if P then (1 : Int32) else 0) = nI (if P then 1 else 0) := by split <;> rfl
theorem bll_succ {P : Nat → Prop} {i : Nat} : (∀ v, v < i + 1 → P v) ↔ (∀ v, v < i → P v) ∧ P i :=
  ⟨fun h => ⟨fun v hv => h v (by omega), h i (by omega)⟩, fun h v hv => by
    rcases Nat.lt_or_ge v i with q | q
    · exact h.1 v q
    · have : v = i := by omega
      rw [this]; exact h.2⟩
theorem nm_rem2 {n : Nat} (h : n < 2 ^ 31) : nI n - nI n / 2 * 2 = nI (n % 2) := pk_rem (d := 2) h (by decide) (by decide)
/-- the sum of the rows that make a number smaller -/
def rsn (rows : Nat → Nat) : Nat → Nat → Nat
  | 0, z => z
  | k + 1, z => if rsn rows k z ^^^ rows k < rsn rows k z then rsn rows k z ^^^ rows k else rsn rows k z
/-- the rows, as the reference's cells tell them -/
def rR (b rd : Nat) (rows : Nat → Nat) (I : Nat → Int32) (B : Nat → Nat → Int64) : Prop := I 16 = nI rd ∧ ∀ k, k < rd → B 15 k = lN (rows k) ∧ rows k < 2 ^ b
theorem rsn_lt {rows : Nat → Nat} {b z : Nat} (hz : z < 2 ^ b) : ∀ k, (∀ i, i < k → rows i < 2 ^ b) → rsn rows k z < 2 ^ b
  | 0, _ => hz
  | k + 1, h => by
    have ih := rsn_lt hz k (fun i hi => h i (by omega))
    simp only [rsn]
    split
    · exact Nat.xor_lt_two_pow ih (h k (by omega))
    · exact ih
/-- the list, as the reference's cells tell it -/
def lM (L : Nat) (li : Nat → Nat) (I : Nat → Int32) (B : Nat → Nat → Int64) : Prop := I 7 = nI L ∧ L ≤ 64 ∧ ∀ k, k < L → B 6 k = lN (li k) ∧ li k < 2 ^ 40
theorem pwb {z b : Nat} (h : z < 2 ^ b) (hb : b ≤ 40) : z < 2 ^ 63 := Nat.lt_of_lt_of_le h (Nat.pow_le_pow_right (by omega) (by omega))
/-- what a question leaves as it was: the graph and the list -/
def fP (I : Nat → Int32) (A : Nat → Nat → Int32) (B : Nat → Nat → Int64) (u : sgM) : Prop :=
  (∀ k, k ≠ 0 → k ≠ 10 → k ≠ 16 → u.1 k = I k) ∧ (∀ k, k ≠ 8 → k ≠ 12 → k ≠ 18 → k ≠ 19 → u.2.1 k = A k) ∧ ∀ k, k ≠ 9 → k ≠ 11 → k ≠ 13 → k ≠ 14 → k ≠ 15 → k ≠ 17 → u.2.2 k = B k
theorem fP.of {I I' : Nat → Int32} {A A' : Nat → Nat → Int32} {B B' : Nat → Nat → Int64} (h1 : ∀ k, k ≠ 0 → k ≠ 10 → k ≠ 16 → I' k = I k) (h2 : ∀ k, k ≠ 8 → k ≠ 12 → k ≠ 18 → k ≠ 19 → A' k = A k) (h3 : ∀ k, k ≠ 9 → k ≠ 11 → k ≠ 13 → k ≠ 14 → k ≠ 15 → k ≠ 17 → B' k = B k) : fP I A B (I', A', B') := ⟨h1, h2, h3⟩
theorem fP.rf0 {I I' : Nat → Int32} {A : Nat → Nat → Int32} {B : Nat → Nat → Int64} {v : Int32} (h : I' = va_up I 0 v) : fP I A B (I', A, B) := ⟨fun k h0 _ _ => by rw [h]; exact up_ne h0, fun _ _ _ _ _ => rfl, fun _ _ _ _ _ _ _ => rfl⟩
theorem fP.tr {I I1 : Nat → Int32} {A A1 : Nat → Nat → Int32} {B B1 : Nat → Nat → Int64} {u : sgM} (h : fP I A B (I1, A1, B1)) (h2 : fP I1 A1 B1 u) : fP I A B u :=
  ⟨fun k a b c => (h2.1 k a b c).trans (h.1 k a b c), fun k a b c d => (h2.2.1 k a b c d).trans (h.2.1 k a b c d), fun k a b c d e f => (h2.2.2 k a b c d e f).trans (h.2.2 k a b c d e f)⟩
theorem fJ.fp {I : Nat → Int32} {A : Nat → Nat → Int32} {B : Nat → Nat → Int64} {u : sgM} (h : fJ I A B u) : fP I A B u := ⟨fun k _ b _ => h.1 k b, fun k a b _ _ => h.2.1 k a b, fun k a b _ _ _ _ => h.2.2 k a b⟩
theorem fS.fp {I : Nat → Int32} {A : Nat → Nat → Int32} {B : Nat → Nat → Int64} {u : sgM} (h : fS I A B u) : fP I A B u := ⟨fun k _ b _ => h.1 k b, fun k a b _ _ => h.2.1 k a b, fun k a b c d _ _ => h.2.2 k a b c d⟩
theorem fQ.fp {I : Nat → Int32} {A : Nat → Nat → Int32} {B : Nat → Nat → Int64} {u : sgM} (h : fQ I A B u) : fP I A B u := ⟨fun k a b _ => h.1 k a b, fun k a b _ _ => h.2.1 k a b, fun k a b _ _ _ _ => h.2.2 k a b⟩
theorem gM.fp {nv ne : Nat} {fr to wt : Nat → Nat} {I : Nat → Int32} {A : Nat → Nat → Int32} {B : Nat → Nat → Int64} {u : sgM} (g : gM nv ne fr to wt I A) (h : fP I A B u) : gM nv ne fr to wt u.1 u.2.1 := by
  obtain ⟨g1, g2, g3, g4, g5, g6⟩ := g
  refine ⟨g1, g2, g3, by rw [h.1 1 (by decide) (by decide) (by decide)]; exact g4, by rw [h.1 2 (by decide) (by decide) (by decide)]; exact g5, ?_⟩
  rw [h.2.1 3 (by decide) (by decide) (by decide) (by decide), h.2.1 4 (by decide) (by decide) (by decide) (by decide), h.2.1 5 (by decide) (by decide) (by decide) (by decide)]
  exact g6
theorem nm_set {z k : Nat} (hz : z < 2 ^ 64) (hk : k ≤ 40) : ((lN z).toUInt64 >>> ((nI k).toInt64.toUInt64 &&& Int64.toUInt64 63)).toInt64 = 0 ↔ z < 2 ^ k := by
  rw [wb_shr hz (by omega)]
  have hp : 0 < 2 ^ k := Nat.two_pow_pos k
  have hl : z / 2 ^ k < 2 ^ 64 := Nat.lt_of_le_of_lt (Nat.div_le_self _ _) hz
  constructor
  · intro h
    have h2 : z / 2 ^ k = 0 := by
      have this : (lN (z / 2 ^ k)).toBitVec.toNat = (0 : Int64).toBitVec.toNat := congrArg (fun x => x.toBitVec.toNat) h
      rw [wb_tn hl] at this
      exact this
    rcases Nat.lt_or_ge z (2 ^ k) with q | q
    · exact q
    · have := Nat.div_pos q hp; omega
  · intro h
    rw [Nat.div_eq_of_lt h]; rfl
/-- the least of w over those below i that P has; -1 without one -/
def thI (P : Nat → Bool) (w : Nat → Nat) (i : Nat) (y : Int64) : Prop :=
  (y = -1 ∧ ∀ c, c < i → P c = false) ∨ ∃ c, c < i ∧ P c = true ∧ y = lN (w c) ∧ ∀ c', c' < i → P c' = true → w c ≤ w c'
theorem lN_nneg {a : Nat} (h : a < 2 ^ 63) : ¬ lN a < 0 := fun h2 => absurd ((pk_lLT (b := 0) h (by decide)).mp h2) (Nat.not_lt_zero _)
theorem thI_skip {P : Nat → Bool} {w : Nat → Nat} {i : Nat} {y : Int64} (h : thI P w i y) (hp : P i = false) : thI P w (i + 1) y := by
  have key : ∀ c, c < i + 1 → P c = true → c < i := fun c hc h2 => by
    rcases Nat.lt_or_ge c i with q | q
    · exact q
    · have : c = i := by omega
      rw [this, hp] at h2; cases h2
  rcases h with ⟨h1, h2⟩ | ⟨c, hc, h1, h2, h3⟩
  · refine Or.inl ⟨h1, fun c hc => ?_⟩
    cases hh : P c with
    | false => rfl
    | true => rw [← hh]; exact h2 c (key c hc hh)
  · exact Or.inr ⟨c, by omega, h1, h2, fun c' hc' h4 => h3 c' (key c' hc' h4) h4⟩
theorem thI_neg {P : Nat → Bool} {w : Nat → Nat} {i : Nat} {y : Int64} (h : thI P w i y) (hw : ∀ c, w c < 2 ^ 63) (hp : P i = true) (hy : y < 0) : thI P w (i + 1) (lN (w i)) := by
  rcases h with ⟨h1, h2⟩ | ⟨c, hc, h1, h2, h3⟩
  · refine Or.inr ⟨i, by omega, hp, rfl, fun c' hc' h4 => ?_⟩
    rcases Nat.lt_or_ge c' i with q | q
    · rw [h2 c' q] at h4; cases h4
    · have : c' = i := by omega
      rw [this]; exact Nat.le_refl _
  · rw [h2] at hy; exact absurd hy (lN_nneg (hw c))
theorem thI_keep {P : Nat → Bool} {w : Nat → Nat} {i : Nat} {y : Int64} (h : thI P w i y) (hw : ∀ c, w c < 2 ^ 63) (hy : ¬ y < 0) (hl : y ≤ lN (w i)) : thI P w (i + 1) y := by
  rcases h with ⟨h1, h2⟩ | ⟨c, hc, h1, h2, h3⟩
  · rw [h1] at hy; exact absurd (by decide) hy
  · rw [h2, pk_lLE (hw c) (hw i)] at hl
    refine Or.inr ⟨c, by omega, h1, h2, fun c' hc' h4 => ?_⟩
    rcases Nat.lt_or_ge c' i with q | q
    · exact h3 c' q h4
    · have : c' = i := by omega
      rw [this]; exact hl
theorem thI_new {P : Nat → Bool} {w : Nat → Nat} {i : Nat} {y : Int64} (h : thI P w i y) (hw : ∀ c, w c < 2 ^ 63) (hp : P i = true) (hy : ¬ y < 0) (hl : ¬ y ≤ lN (w i)) : thI P w (i + 1) (lN (w i)) := by
  rcases h with ⟨h1, h2⟩ | ⟨c, hc, h1, h2, h3⟩
  · rw [h1] at hy; exact absurd (by decide) hy
  · rw [h2, pk_lLE (hw c) (hw i)] at hl
    refine Or.inr ⟨i, by omega, hp, rfl, fun c' hc' h4 => ?_⟩
    rcases Nat.lt_or_ge c' i with q | q
    · have := h3 c' q h4; omega
    · have : c' = i := by omega
      rw [this]; exact Nat.le_refl _
theorem wsum_le {wt : Nat → Nat} {z : Nat} : ∀ m, (∀ e, e < m → wt e ≤ 1000000000) → wsum wt z m ≤ m * 1000000000
  | 0, _ => Nat.le_refl _
  | m + 1, h => by
    have := wsum_le (z := z) m (fun e he => h e (by omega))
    have h2 := h m (by omega)
    simp only [wsum]
    rw [Nat.succ_mul]
    refine Nat.add_le_add this ?_
    split
    · exact h2
    · exact Nat.zero_le _
theorem gM.wl {nv ne : Nat} {fr to wt : Nat → Nat} {I : Nat → Int32} {A : Nat → Nat → Int32} (g : gM nv ne fr to wt I A) (z : Nat) : wsum wt z ne < 2 ^ 40 := by
  have h := wsum_le (z := z) ne (fun e he => (g.2.2.2.2.2 e he).2.2.2)
  have := g.2.2.1
  omega
theorem or_bit {a i : Nat} (ha : a < 2 ^ i) (hi : i < 31) : nI a ||| nI (2 ^ i) = nI (a + 2 ^ i) := by
  have h1 : a ||| 2 ^ i = a + 2 ^ i := by
    have := Nat.two_pow_add_eq_or_of_lt ha 1
    rw [Nat.mul_one] at this
    rw [Nat.or_comm, ← this, Nat.add_comm]
  rw [← h1]
  apply Int32.toBitVec_inj.1
  show BitVec.ofNat 32 a ||| BitVec.ofNat 32 (2 ^ i) = BitVec.ofNat 32 (a ||| 2 ^ i)
  apply BitVec.eq_of_getLsbD_eq
  intro j hj
  simp [hj]
