-- numbers of the machine, for the walks
theorem nm_shr {z k : Nat} (hz : z < 2 ^ 62) (hk : k < 64) : lN z >>> ((nI k).toInt64 &&& 63) = lN (z / 2 ^ k) := by
  refine pf_shr ?_ hz
  rw [wb_c k hk, wb_tb, wb_sm k hk]
  rw [BitVec.toNat_ofNat]
  exact Nat.mod_eq_of_lt (by omega)
theorem nm_bit {z k : Nat} (hz : z < 2 ^ 62) (hk : k < 64) : (lN z >>> ((nI k).toInt64 &&& 63)) &&& 1 = lN (z / 2 ^ k % 2) := by
  rw [nm_shr hz hk]
  exact wb_a1 (Nat.lt_of_le_of_lt (Nat.div_le_self _ _) (by omega))
theorem nm_tb (z k : Nat) : z / 2 ^ k % 2 = if z.testBit k then 1 else 0 := by
  rw [Nat.testBit_eq_decide_div_mod_eq]
  by_cases h : z / 2 ^ k % 2 = 1
  · simp [h]
  · have : z / 2 ^ k % 2 < 2 := Nat.mod_lt _ (by omega)
    simp [h]; omega
theorem nm_bit1 {z k : Nat} (hz : z < 2 ^ 62) (hk : k < 64) : (lN z >>> ((nI k).toInt64 &&& 63)) &&& 1 = 1 ↔ z.testBit k = true := by
  rw [nm_bit hz hk, nm_tb]
  cases z.testBit k <;> simp <;> decide
theorem nm_bit0 {z k : Nat} (hz : z < 2 ^ 62) (hk : k < 64) : (lN z >>> ((nI k).toInt64 &&& 63)) &&& 1 = 0 ↔ z.testBit k = false := by
  rw [nm_bit hz hk, nm_tb]
  cases z.testBit k <;> simp <;> decide
theorem nm_ubit0 {z k : Nat} (hz : z < 2 ^ 64) (hk : k < 64) : ((lN z).toUInt64 >>> ((nI k).toInt64.toUInt64 &&& Int64.toUInt64 63)).toInt64 &&& 1 = 0 ↔ z.testBit k = false := by
  rw [wb_bit hz hk, nm_tb]
  cases z.testBit k <;> simp <;> decide
theorem nm_pow {k : Nat} (hk : k < 64) : (1 : Int64) <<< ((nI k).toInt64 &&& 63) = lN (2 ^ k) := by
  have := wb_shl 1 hk
  rw [Nat.one_mul] at this
  exact this
theorem nm_il {w : Nat} (h : w < 2 ^ 31) : (nI w).toInt64 = lN w := nI_l h
/-- the weight of the edges below m of a set -/
def wsum (wt : Nat → Nat) (z : Nat) : Nat → Nat
  | 0 => 0
  | e + 1 => wsum wt z e + (if z.testBit e then wt e else 0)
/-- the graph that the reference's cells tell -/
def gM (nv ne : Nat) (fr to wt : Nat → Nat) (I : Nat → Int32) (A : Nat → Nat → Int32) : Prop :=
  1 ≤ nv ∧ nv ≤ 16 ∧ ne ≤ 40 ∧ I 1 = nI nv ∧ I 2 = nI ne ∧ ∀ e, e < ne → (A 3 e = nI (fr e) ∧ fr e < nv) ∧ (A 4 e = nI (to e) ∧ to e < nv) ∧ A 5 e = nI (wt e) ∧ wt e ≤ 1000000000
/-- names of groups and ways, as cells tell them -/
def rG (N : Nat) (g : Nat → Nat) (f : Nat → Int32) : Prop := ∀ v, v < N → f v = nI (g v) ∧ g v < N
def rW (N : Nat) (w : Nat → Nat) (f : Nat → Int64) : Prop := ∀ v, v < N → f v = lN (w v)
/-- the joining's state, as the reference's cells tell it -/
def rJ (N : Nat) (q : JS) (I : Nat → Int32) (A : Nat → Nat → Int32) (B : Nat → Nat → Int64) : Prop :=
  rG N q.1 (A 8) ∧ rW N q.2.1 (B 9) ∧ I 10 = nI q.2.2.1 ∧ ∀ i, i < q.2.2.1 → B 11 i = lN (q.2.2.2.1 i) ∧ A 12 i = nI (q.2.2.2.2 i)
/-- what the joining leaves as it was -/
def fJ (I : Nat → Int32) (A : Nat → Nat → Int32) (B : Nat → Nat → Int64) (u : sgM) : Prop := (∀ k, k ≠ 10 → u.1 k = I k) ∧ (∀ k, k ≠ 8 → k ≠ 12 → u.2.1 k = A k) ∧ ∀ k, k ≠ 9 → k ≠ 11 → u.2.2 k = B k
theorem fJ.rf {I : Nat → Int32} {A : Nat → Nat → Int32} {B : Nat → Nat → Int64} : fJ I A B (I, A, B) := ⟨fun _ _ => rfl, fun _ _ _ => rfl, fun _ _ _ => rfl⟩
theorem fJ.tr {I I1 : Nat → Int32} {A A1 : Nat → Nat → Int32} {B B1 : Nat → Nat → Int64} {u : sgM} (h : fJ I A B (I1, A1, B1)) (h2 : fJ I1 A1 B1 u) : fJ I A B u :=
  ⟨fun k a => (h2.1 k a).trans (h.1 k a), fun k a b => (h2.2.1 k a b).trans (h.2.1 k a b), fun k a b => (h2.2.2 k a b).trans (h.2.2 k a b)⟩
theorem gM.fj {nv ne : Nat} {fr to wt : Nat → Nat} {I : Nat → Int32} {A : Nat → Nat → Int32} {B : Nat → Nat → Int64} {u : sgM} (g : gM nv ne fr to wt I A) (h : fJ I A B u) : gM nv ne fr to wt u.1 u.2.1 := by
  obtain ⟨g1, g2, g3, g4, g5, g6⟩ := g
  refine ⟨g1, g2, g3, by rw [h.1 1 (by decide)]; exact g4, by rw [h.1 2 (by decide)]; exact g5, ?_⟩
  rw [h.2.1 3 (by decide) (by decide), h.2.1 4 (by decide) (by decide), h.2.1 5 (by decide) (by decide)]
  exact g6
theorem rJ_close {N a b e : Nat} {q : JS} {I I' : Nat → Int32} {A A' : Nat → Nat → Int32} {B B' : Nat → Nat → Int64} (h : rJ N q I A B) (hg : q.1 a = q.1 b) (hA8 : A' 8 = A 8) (hB9 : B' 9 = B 9) (hI : I' 10 = nI (q.2.2.1 + 1))
    (hB : B' 11 = vp_updL (B 11) q.2.2.1 (lN (jr q a b e))) (hA : A' 12 = upd (A 12) q.2.2.1 (nI e)) : rJ N (jStep a b e q) I' A' B' := by
  obtain ⟨h1, h2, h3, h4⟩ := h
  unfold jStep
  rw [if_pos hg]
  refine ⟨by rw [hA8]; exact h1, by rw [hB9]; exact h2, hI, fun i hi => ?_⟩
  have hi : i < q.2.2.1 + 1 := hi
  show B' 11 i = lN (va_up q.2.2.2.1 q.2.2.1 (jr q a b e) i) ∧ A' 12 i = nI (va_up q.2.2.2.2 q.2.2.1 e i)
  rw [hB, hA]
  by_cases hd : i = q.2.2.1
  · subst hd; rw [pk_uLs, pk_us, up_self, up_self]; exact ⟨rfl, rfl⟩
  · rw [pk_uLn hd, pk_un hd, up_ne hd, up_ne hd]; exact h4 i (by omega)
theorem rJ_join {N a b e : Nat} {q : JS} {I I' : Nat → Int32} {A A' : Nat → Nat → Int32} {B B' : Nat → Nat → Int64} (h : rJ N q I A B) (ha : a < N) (hg : q.1 a ≠ q.1 b) (hI : I' 10 = I 10) (hB : B' 11 = B 11) (hA : A' 12 = A 12)
    (hA8 : ∀ v, v < N → A' 8 v = nI (if q.1 v = q.1 b then q.1 a else q.1 v)) (hB9 : ∀ v, v < N → B' 9 v = lN (if q.1 v = q.1 b then q.2.1 v ^^^ jr q a b e else q.2.1 v)) : rJ N (jStep a b e q) I' A' B' := by
  obtain ⟨h1, h2, h3, h4⟩ := h
  unfold jStep
  rw [if_neg hg]
  refine ⟨fun v hv => ⟨hA8 v hv, ?_⟩, hB9, by rw [hI]; exact h3, by rw [hB, hA]; exact h4⟩
  show (if q.1 v = q.1 b then q.1 a else q.1 v) < N
  split
  · exact (h1 a ha).2
  · exact (h1 v hv).2
theorem fJ.of {I I' : Nat → Int32} {A A' : Nat → Nat → Int32} {B B' : Nat → Nat → Int64} (h1 : ∀ k, k ≠ 10 → I' k = I k) (h2 : ∀ k, k ≠ 8 → k ≠ 12 → A' k = A k) (h3 : ∀ k, k ≠ 9 → k ≠ 11 → B' k = B k) : fJ I A B (I', A', B') := ⟨h1, h2, h3⟩
theorem dim_eq {a b c d : Nat} (h : a + b = c + d) : nI b - nI c + nI a = nI d := by
  have h1 : nI a + nI b = nI c + nI d := by rw [nI_add, nI_add, h]
  grind
/-- edge: the arguments are no edge's; there is no room for it -/
def bE (nv : Nat) (a b w : Int32) : Prop := a < 0 ∨ nI nv ≤ a ∨ b < 0 ∨ nI nv ≤ b ∨ w < 0 ∨ 1000000000 < w
def fE (ne : Nat) (q : JS) (a b : Int32) : Prop := ne = 40 ∨ (q.2.2.1 = 14 ∧ q.1 a.toNatClampNeg = q.1 b.toNatClampNeg)
theorem isv {a n : Int32} : (if a < 0 then 0 else if n ≤ a then 0 else 1 : Int32) = 0 ↔ a < 0 ∨ n ≤ a := by
  by_cases h : a < 0
  · simp [h]
  · by_cases h2 : n ≤ a
    · simp [h, h2]
    · simp [h, h2]
theorem vtx_of {nv : Nat} {a : Int32} (hn : nv ≤ 16) (h0 : ¬ a < 0) (h1 : ¬ nI nv ≤ a) : ∃ j, j < nv ∧ a = nI j ∧ a.toNatClampNeg = j := by
  obtain ⟨j, hj, rfl⟩ := nI_of h0
  rw [nI_leI (by omega) hj] at h1
  exact ⟨j, by omega, rfl, nI_clamp hj⟩
/-- the reference's cells but for 'thrown' and the joining's -/
def fQ (I : Nat → Int32) (A : Nat → Nat → Int32) (B : Nat → Nat → Int64) (u : sgM) : Prop := (∀ k, k ≠ 0 → k ≠ 10 → u.1 k = I k) ∧ (∀ k, k ≠ 8 → k ≠ 12 → u.2.1 k = A k) ∧ ∀ k, k ≠ 9 → k ≠ 11 → u.2.2 k = B k
theorem fQ.of {I I' : Nat → Int32} {A A' : Nat → Nat → Int32} {B B' : Nat → Nat → Int64} (h1 : ∀ k, k ≠ 0 → k ≠ 10 → I' k = I k) (h2 : ∀ k, k ≠ 8 → k ≠ 12 → A' k = A k) (h3 : ∀ k, k ≠ 9 → k ≠ 11 → B' k = B k) : fQ I A B (I', A', B') := ⟨h1, h2, h3⟩
/-- edge: one more -/
def nE (ne : Nat) (a b w : Int32) (I : Nat → Int32) (A : Nat → Nat → Int32) (B : Nat → Nat → Int64) (u : sgM) : Prop :=
  u.1 2 = nI (ne + 1) ∧ (∀ k, k ≠ 0 → k ≠ 2 → k ≠ 10 → u.1 k = I k) ∧ u.2.1 3 = upd (A 3) ne a ∧ u.2.1 4 = upd (A 4) ne b ∧ u.2.1 5 = upd (A 5) ne w ∧ (∀ k, k ≠ 3 → k ≠ 4 → k ≠ 5 → k ≠ 8 → k ≠ 12 → u.2.1 k = A k) ∧ ∀ k, k ≠ 9 → k ≠ 11 → u.2.2 k = B k
theorem nm_ishl {k : Nat} (hk : k < 31) : (1 : Int32) <<< (nI k &&& 31) = nI (2 ^ k) := by
  have h2 : 2 ^ k < 2 ^ 31 := Nat.pow_lt_pow_right (by omega) (by omega)
  have := pk_shlN (n := 1) (nI k &&& 31) k (s_l k (by omega)) (by omega)
  rw [Nat.one_mul] at this
  exact this
theorem nm_ishr {z k : Nat} (hz : z < 2 ^ 31) (hk : k < 32) : nI z >>> (nI k &&& 31) = nI (z / 2 ^ k) := pk_shrN hz _ k (s_l k hk)
theorem nm_ibit {z k : Nat} (hz : z < 2 ^ 31) (hk : k < 32) : (nI z >>> (nI k &&& 31)) &&& 1 = nI (if z.testBit k then 1 else 0) := by
  rw [nm_ishr hz hk, pk_andN (Nat.lt_of_le_of_lt (Nat.div_le_self _ _) (by omega)) 1 (by decide), Nat.pow_one, nm_tb]
theorem nm_ibit1 {z k : Nat} (hz : z < 2 ^ 31) (hk : k < 32) : (nI z >>> (nI k &&& 31)) &&& 1 = 1 ↔ z.testBit k = true := by
  rw [nm_ibit hz hk]
  cases z.testBit k <;> simp <;> decide
theorem pw14 {d : Nat} (h : d ≤ 14) : 2 ^ d ≤ 16384 := Nat.pow_le_pow_right (n := 2) (by omega) h
theorem pw40 {z m : Nat} (h : z < 2 ^ m) (hm : m ≤ 40) : z < 2 ^ 62 := Nat.lt_of_lt_of_le h (Nat.pow_le_pow_right (by omega) (by omega))
/-- what the spreading leaves as it was -/
def fS (I : Nat → Int32) (A : Nat → Nat → Int32) (B : Nat → Nat → Int64) (u : sgM) : Prop := (∀ k, k ≠ 10 → u.1 k = I k) ∧ (∀ k, k ≠ 8 → k ≠ 12 → u.2.1 k = A k) ∧ ∀ k, k ≠ 9 → k ≠ 11 → k ≠ 13 → k ≠ 14 → u.2.2 k = B k
theorem fS.of {I I' : Nat → Int32} {A A' : Nat → Nat → Int32} {B B' : Nat → Nat → Int64} (h1 : ∀ k, k ≠ 10 → I' k = I k) (h2 : ∀ k, k ≠ 8 → k ≠ 12 → A' k = A k) (h3 : ∀ k, k ≠ 9 → k ≠ 11 → k ≠ 13 → k ≠ 14 → B' k = B k) : fS I A B (I', A', B') := ⟨h1, h2, h3⟩
theorem gM.fs {nv ne : Nat} {fr to wt : Nat → Nat} {I : Nat → Int32} {A : Nat → Nat → Int32} {B : Nat → Nat → Int64} {u : sgM} (g : gM nv ne fr to wt I A) (h : fS I A B u) : gM nv ne fr to wt u.1 u.2.1 := by
  obtain ⟨g1, g2, g3, g4, g5, g6⟩ := g
  refine ⟨g1, g2, g3, by rw [h.1 1 (by decide)]; exact g4, by rw [h.1 2 (by decide)]; exact g5, ?_⟩
  rw [h.2.1 3 (by decide) (by decide), h.2.1 4 (by decide) (by decide), h.2.1 5 (by decide) (by decide)]
  exact g6
theorem gM.en {nv ne : Nat} {fr to wt : Nat → Nat} {I : Nat → Int32} {A : Nat → Nat → Int32} (g : gM nv ne fr to wt I A) : ∀ e, e < ne → fr e < nv ∧ to e < nv := fun e he => ⟨(g.2.2.2.2.2 e he).1.2, (g.2.2.2.2.2 e he).2.1.2⟩
