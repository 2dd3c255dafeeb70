-- the class's cells and what they tell
/-- the graph -/
def gH (nv ne : Nat) (fr to wt : Nat → Nat) (I : Nat → Int32) (A : Nat → Nat → Int32) : Prop :=
  1 ≤ nv ∧ nv ≤ 16 ∧ ne ≤ 40 ∧ I 0 = nI nv ∧ I 1 = nI ne ∧ ∀ e, e < ne → (A 2 e = nI (fr e) ∧ fr e < nv) ∧ (A 3 e = nI (to e) ∧ to e < nv) ∧ A 4 e = nI (wt e) ∧ wt e ≤ 1000000000
theorem gH.en {nv ne : Nat} {fr to wt : Nat → Nat} {I : Nat → Int32} {A : Nat → Nat → Int32} (g : gH nv ne fr to wt I A) : ∀ e, e < ne → fr e < nv ∧ to e < nv := fun e he => ⟨(g.2.2.2.2.2 e he).1.2, (g.2.2.2.2.2 e he).2.1.2⟩
/-- the groups: names, ways, how many -/
def rQ (N : Nat) (q : JS) (I : Nat → Int32) (A : Nat → Nat → Int32) (B : Nat → Nat → Int64) : Prop := rG N q.1 (A 8) ∧ rW N q.2.1 (B 9) ∧ I 4 = nI N ∧ I 5 = nI (gc N q)
/-- what the groups' work leaves as it was -/
def fG (I : Nat → Int32) (A : Nat → Nat → Int32) (B : Nat → Nat → Int64) (C : Nat → Nat → Int32) (T : Nat → Nat → Int64) (u : sgH) : Prop :=
  (∀ k, k ≠ 4 → k ≠ 5 → u.1 k = I k) ∧ (∀ k, k ≠ 8 → u.2.1 k = A k) ∧ (∀ k, k ≠ 9 → u.2.2.1 k = B k) ∧ u.2.2.2.1 = C ∧ u.2.2.2.2 = T
theorem fG.rf {I : Nat → Int32} {A : Nat → Nat → Int32} {B : Nat → Nat → Int64} {C : Nat → Nat → Int32} {T : Nat → Nat → Int64} : fG I A B C T (I, A, B, C, T) := ⟨fun _ _ _ => rfl, fun _ _ => rfl, fun _ _ => rfl, rfl, rfl⟩
theorem fG.of {I I' : Nat → Int32} {A A' : Nat → Nat → Int32} {B B' : Nat → Nat → Int64} {C C' : Nat → Nat → Int32} {T T' : Nat → Nat → Int64} (h1 : ∀ k, k ≠ 4 → k ≠ 5 → I' k = I k) (h2 : ∀ k, k ≠ 8 → A' k = A k) (h3 : ∀ k, k ≠ 9 → B' k = B k) (h4 : C' = C) (h5 : T' = T) : fG I A B C T (I', A', B', C', T') := ⟨h1, h2, h3, h4, h5⟩
theorem fG.tr {I I1 : Nat → Int32} {A A1 : Nat → Nat → Int32} {B B1 : Nat → Nat → Int64} {C C1 : Nat → Nat → Int32} {T T1 : Nat → Nat → Int64} {u : sgH} (h : fG I A B C T (I1, A1, B1, C1, T1)) (h2 : fG I1 A1 B1 C1 T1 u) : fG I A B C T u :=
  ⟨fun k a b => (h2.1 k a b).trans (h.1 k a b), fun k a => (h2.2.1 k a).trans (h.2.1 k a), fun k a => (h2.2.2.1 k a).trans (h.2.2.1 k a), h2.2.2.2.1.trans h.2.2.2.1, h2.2.2.2.2.trans h.2.2.2.2⟩
theorem gH.fg {nv ne : Nat} {fr to wt : Nat → Nat} {I : Nat → Int32} {A : Nat → Nat → Int32} {B : Nat → Nat → Int64} {C : Nat → Nat → Int32} {T : Nat → Nat → Int64} {u : sgH} (g : gH nv ne fr to wt I A) (h : fG I A B C T u) : gH nv ne fr to wt u.1 u.2.1 := by
  obtain ⟨g1, g2, g3, g4, g5, g6⟩ := g
  refine ⟨g1, g2, g3, by rw [h.1 0 (by decide) (by decide)]; exact g4, by rw [h.1 1 (by decide) (by decide)]; exact g5, ?_⟩
  rw [h.2.1 2 (by decide), h.2.1 3 (by decide), h.2.1 4 (by decide)]
  exact g6
theorem jS_g {a b e : Nat} {q : JS} (h : q.1 a ≠ q.1 b) (v : Nat) : (jStep a b e q).1 v = (if q.1 v = q.1 b then q.1 a else q.1 v) := by unfold jStep; rw [if_neg h]
theorem jS_w {a b e : Nat} {q : JS} (h : q.1 a ≠ q.1 b) (v : Nat) : (jStep a b e q).2.1 v = (if q.1 v = q.1 b then q.2.1 v ^^^ jr q a b e else q.2.1 v) := by unfold jStep; rw [if_neg h]
