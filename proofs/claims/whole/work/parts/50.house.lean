-- the class's cells and what they tell
/-- the graph -/
def gH (nv ne : Nat) (fr to wt : Nat → Nat) (I : Nat → Int32) (A : Nat → Nat → Int32) : Prop :=
  1 ≤ nv ∧ nv ≤ 16 ∧ ne ≤ 40 ∧ I 0 = nI nv ∧ I 1 = nI ne ∧ ∀ e, e < ne → (A 2 e = nI (fr e) ∧ fr e < nv) ∧ (A 3 e = nI (to e) ∧ to e < nv) ∧ A 4 e = nI (wt e) ∧ wt e ≤ 1000000000
theorem gH.en {nv ne : Nat} {fr to wt : Nat → Nat} {I : Nat → Int32} {A : Nat → Nat → Int32} (g : gH nv ne fr to wt I A) : ∀ e, e < ne → fr e < nv ∧ to e < nv := fun e he => ⟨(g.2.2.2.2.2 e he).1.2, (g.2.2.2.2.2 e he).2.1.2⟩
/-- the groups: names, ways, how many -/
def rQ (N : Nat) (q : JS) (I : Nat → Int32) (A : Nat → Nat → Int32) (B : Nat → Nat → Int64) : Prop := rG N q.1 (A 8) ∧ rW N q.2.1 (B 9) ∧ I 4 = nI N ∧ I 5 = nI (gc N q)
/-- what the groups' work leaves as it was -/
def fG (I : Nat → Int32) (A : Nat → Nat → Int32) (B : Nat → Nat → Int64) (C : Nat → Nat → Int32) (T : Nat → Nat → Int64) (u : sgH) : Prop :=
  (∀ k, k ≠ 4 → k ≠ 5 → u.1 k = I k) ∧ (∀ k, k ≠ 8 → u.2.1 k = A k) ∧ (∀ k, k ≠ 9 → u.2.2.1 k = B k) ∧ u.2.2.2.1 = C ∧ u.2.2.2.2 = T
theorem fG.rf {I : Nat → Int32} {A : Nat → Nat → Int32} {B : Nat → Nat → Int64} {C : Nat → Nat → Int32} {T : Nat → Nat → Int64} : fG I A B C T (I, A, B, C, T) := ⟨fun _ _ _ => rfl, fun _ _ => rfl, fun _ _ => rfl, rfl, rfl⟩
theorem fG.of {I I' : Nat → Int32} {A A' : Nat → Nat → Int32} {B B' : Nat → Nat → Int64} {C C' : Nat → Nat → Int32} {T T' : Nat → Nat → Int64} (h1 : ∀ k, k ≠ 4 → k ≠ 5 → I' k = I k) (h2 : ∀ k, k ≠ 8 → A' k = A k) (h3 : ∀ k, k ≠ 9 → B' k = B k) (h4 : C' = C) (h5 : T' = T) : fG I A B C T (I', A', B', C', T') := ⟨h1, h2, h3, h4, h5⟩
theorem fG.tr {I I1 : Nat → Int32} {A A1 : Nat → Nat → Int32} {B B1 : Nat → Nat → Int64} {C C1 : Nat → Nat → Int32} {T T1 : Nat → Nat → Int64} {u : sgH} (h : fG I A B C T (I1, A1, B1, C1, T1)) (h2 : fG I1 A1 B1 C1 T1 u) : fG I A B C T u :=
  ⟨fun k a b => (h2.1 k a b).trans (h.1 k a b), fun k a => (h2.2.1 k a).trans (h.2.1 k a), fun k a => (h2.2.2.1 k a).trans (h.2.2.1 k a), h2.2.2.2.1.trans h.2.2.2.1, h2.2.2.2.2.trans h.2.2.2.2⟩
theorem gH.fg {nv ne : Nat} {fr to wt : Nat → Nat} {I : Nat → Int32} {A : Nat → Nat → Int32} {B : Nat → Nat → Int64} {C : Nat → Nat → Int32} {T : Nat → Nat → Int64} {u : sgH} (g : gH nv ne fr to wt I A) (h : fG I A B C T u) : gH nv ne fr to wt u.1 u.2.1 := by
  obtain ⟨g1, g2, g3, g4, g5, g6⟩ := g
  refine ⟨g1, g2, g3, by rw [h.1 0 (by decide) (by decide)]; exact g4, by rw [h.1 1 (by decide) (by decide)]; exact g5, ?_⟩
  rw [h.2.1 2 (by decide), h.2.1 3 (by decide), h.2.1 4 (by decide)]
  exact g6
theorem jS_g {a b e : Nat} {q : JS} (h : q.1 a ≠ q.1 b) (v : Nat) : (jStep a b e q).1 v = (if q.1 v = q.1 b then q.1 a else q.1 v) := by unfold jStep; rw [if_neg h]
theorem jS_w {a b e : Nat} {q : JS} (h : q.1 a ≠ q.1 b) (v : Nat) : (jStep a b e q).2.1 v = (if q.1 v = q.1 b then q.2.1 v ^^^ jr q a b e else q.2.1 v) := by unfold jStep; rw [if_neg h]
/-- ways from one vertex: lengths and edges -/
abbrev WSt : Type := (Nat → Nat) × (Nat → Nat)
def sh1b (a b w : Nat) (p : WSt) : Bool := decide (p.1 a + w < p.1 b)
def sh1 (a b e w : Nat) (p : WSt) : WSt := if sh1b a b w p = true then (va_up p.1 b (p.1 a + w), va_up p.2 b (p.2 a ^^^ 2 ^ e)) else p
/-- all edges below k but x are looked at once -/
def shA (fr to wt : Nat → Nat) (x : Nat) : Nat → WSt → WSt × Bool
  | 0, p => (p, false)
  | e + 1, p => if e = x then shA fr to wt x e p else (sh1 (to e) (fr e) e (wt e) (sh1 (fr e) (to e) e (wt e) (shA fr to wt x e p).1), ((shA fr to wt x e p).2 || sh1b (fr e) (to e) (wt e) (shA fr to wt x e p).1) || sh1b (to e) (fr e) (wt e) (sh1 (fr e) (to e) e (wt e) (shA fr to wt x e p).1))
def skR (fr to wt : Nat → Nat) (x ne : Nat) : Nat → WSt → WSt
  | 0, p => p
  | n + 1, p => if (shA fr to wt x ne p).2 = true then skR fr to wt x ne n (shA fr to wt x ne p).1 else (shA fr to wt x ne p).1
abbrev sk0 (a : Nat) : WSt := (va_up (fun _ => 2 ^ 60) a 0, fun _ => 0)
def sek (fr to wt : Nat → Nat) (x ne nv a : Nat) : WSt := skR fr to wt x ne (nv - 1) (sk0 a)
def rWy (N : Nat) (p : WSt) (B : Nat → Nat → Int64) : Prop := ∀ v, v < N → B 11 v = lN (p.1 v) ∧ p.1 v ≤ 2 ^ 60 ∧ B 12 v = lN (p.2 v)
/-- what the ways' work leaves as it was -/
def fW (I : Nat → Int32) (A : Nat → Nat → Int32) (B : Nat → Nat → Int64) (C : Nat → Nat → Int32) (T : Nat → Nat → Int64) (u : sgH) : Prop := u.1 = I ∧ u.2.1 = A ∧ (∀ k, k ≠ 11 → k ≠ 12 → u.2.2.1 k = B k) ∧ u.2.2.2.1 = C ∧ u.2.2.2.2 = T
theorem fW.of {I I' : Nat → Int32} {A A' : Nat → Nat → Int32} {B B' : Nat → Nat → Int64} {C C' : Nat → Nat → Int32} {T T' : Nat → Nat → Int64} (h1 : I' = I) (h2 : A' = A) (h3 : ∀ k, k ≠ 11 → k ≠ 12 → B' k = B k) (h4 : C' = C) (h5 : T' = T) : fW I A B C T (I', A', B', C', T') := ⟨h1, h2, h3, h4, h5⟩
theorem sh1_no {a b e w : Nat} {p : WSt} (h : sh1b a b w p = false) : sh1 a b e w p = p := by unfold sh1; rw [if_neg (by rw [h]; decide)]
theorem sh1_yes {a b e w : Nat} {p : WSt} (h : sh1b a b w p = true) : sh1 a b e w p = (va_up p.1 b (p.1 a + w), va_up p.2 b (p.2 a ^^^ 2 ^ e)) := by unfold sh1; rw [if_pos h]
theorem rWy_put {N a b e w : Nat} {p : WSt} {B B' : Nat → Nat → Int64} (h : rWy N p B) (hb : b < N) (hs : sh1b a b w p = true) (h1 : B' 11 = vp_updL (B 11) b (lN (p.1 a + w))) (h2 : B' 12 = vp_updL (B 12) b (lN (p.2 a ^^^ 2 ^ e))) : rWy N (sh1 a b e w p) B' := by
  rw [sh1_yes hs]
  have hl : p.1 a + w < p.1 b := of_decide_eq_true hs
  intro v hv
  show B' 11 v = lN (va_up p.1 b (p.1 a + w) v) ∧ va_up p.1 b (p.1 a + w) v ≤ 2 ^ 60 ∧ B' 12 v = lN (va_up p.2 b (p.2 a ^^^ 2 ^ e) v)
  rw [h1, h2]
  by_cases e1 : v = b
  · subst e1; rw [pk_uLs, pk_uLs, up_self, up_self]; exact ⟨rfl, by have := (h v hv).2.1; omega, rfl⟩
  · rw [pk_uLn e1, pk_uLn e1, up_ne e1, up_ne e1]; exact h v hv
theorem b_ne {x : Bool} (h : x ≠ true) : x = false := bool_f h
theorem or_b {x y : Bool} : (if x then (1 : Int32) else 0) ||| (if y then 1 else 0) = (if x || y then 1 else 0) := by cases x <;> cases y <;> rfl
