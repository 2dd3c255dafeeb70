-- the lightest joins, one behind the other
/-- the first of the lightest edges below k that join two groups -/
def bE1 (fr to wt : Nat → Nat) (q : JS) : Nat → Option Nat
  | 0 => none
  | k + 1 => if q.1 (fr k) = q.1 (to k) then bE1 fr to wt q k else match bE1 fr to wt q k with
    | none => some k
    | some b => if wt k < wt b then some k else some b
def oI (o : Option Nat) : Int32 := match o with
  | none => -1
  | some b => nI b
theorem bE1_in {fr to wt : Nat → Nat} {q : JS} : ∀ {k b}, bE1 fr to wt q k = some b → b < k ∧ q.1 (fr b) ≠ q.1 (to b)
  | 0, b, h => by cases h
  | k + 1, b, h => by
    simp only [bE1] at h
    by_cases hg : q.1 (fr k) = q.1 (to k)
    · rw [if_pos hg] at h; have := bE1_in h; exact ⟨by omega, this.2⟩
    · rw [if_neg hg] at h
      cases hb : bE1 fr to wt q k with
      | none => rw [hb] at h; cases h; exact ⟨by omega, hg⟩
      | some b0 =>
        rw [hb] at h
        simp only [] at h
        have := bE1_in hb
        split at h
        · cases h; exact ⟨by omega, hg⟩
        · cases h; exact ⟨by omega, this.2⟩
theorem bE1_same {fr to wt : Nat → Nat} {q : JS} {k : Nat} (hg : q.1 (fr k) = q.1 (to k)) : bE1 fr to wt q (k + 1) = bE1 fr to wt q k := by simp only [bE1]; rw [if_pos hg]
theorem bE1_first {fr to wt : Nat → Nat} {q : JS} {k : Nat} (hg : q.1 (fr k) ≠ q.1 (to k)) (h : bE1 fr to wt q k = none) : bE1 fr to wt q (k + 1) = some k := by simp only [bE1]; rw [if_neg hg, h]
theorem bE1_less {fr to wt : Nat → Nat} {q : JS} {k b : Nat} (hg : q.1 (fr k) ≠ q.1 (to k)) (h : bE1 fr to wt q k = some b) (hl : wt k < wt b) : bE1 fr to wt q (k + 1) = some k := by simp only [bE1]; rw [if_neg hg, h]; simp only []; rw [if_pos hl]
theorem bE1_keep {fr to wt : Nat → Nat} {q : JS} {k b : Nat} (hg : q.1 (fr k) ≠ q.1 (to k)) (h : bE1 fr to wt q k = some b) (hl : ¬ wt k < wt b) : bE1 fr to wt q (k + 1) = some b := by simp only [bE1]; rw [if_neg hg, h]; simp only []; rw [if_neg hl]
/-- n times the lightest join, and what it weighs -/
def lgo (fr to wt : Nat → Nat) (ne : Nat) : Nat → JS → Nat → Nat
  | 0, _, a => a
  | n + 1, q, a => match bE1 fr to wt q ne with
    | none => a
    | some b => lgo fr to wt ne n (jStep (fr b) (to b) b q) (a + wt b)
theorem lgo_none {fr to wt : Nat → Nat} {ne : Nat} {q : JS} (h : bE1 fr to wt q ne = none) (n a : Nat) : lgo fr to wt ne n q a = a := by
  cases n with
  | zero => rfl
  | succ n => simp only [lgo]; rw [h]
theorem lgo_some {fr to wt : Nat → Nat} {ne b : Nat} {q : JS} (h : bE1 fr to wt q ne = some b) (n a : Nat) : lgo fr to wt ne (n + 1) q a = lgo fr to wt ne n (jStep (fr b) (to b) b q) (a + wt b) := by simp only [lgo]; rw [h]
