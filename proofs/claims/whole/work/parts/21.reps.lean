-- how many groups there are
def ct0 : Nat → (Nat → Bool) → Nat
  | 0, _ => 0
  | n + 1, f => ct0 n f + (if f n then 1 else 0)
theorem ct0_congr {n : Nat} {f g : Nat → Bool} (h : ∀ i, i < n → f i = g i) : ct0 n f = ct0 n g := by
  induction n with
  | zero => rfl
  | succ n ih => simp only [ct0]; rw [ih (fun i hi => h i (by omega)), h n (by omega)]
theorem ct0_le (n : Nat) (f : Nat → Bool) : ct0 n f ≤ n := by
  induction n with
  | zero => exact Nat.le_refl _
  | succ n ih => simp only [ct0]; split <;> omega
theorem ct0_drop {n a : Nat} {f g : Nat → Bool} (ha : a < n) (hf : f a = true) (hg : g a = false) (h : ∀ i, i < n → i ≠ a → g i = f i) : ct0 n g + 1 = ct0 n f := by
  induction n with
  | zero => omega
  | succ n ih =>
    simp only [ct0]
    by_cases e : a = n
    · subst e
      rw [ct0_congr (fun i hi => h i (by omega) (by omega)), hf, hg]; simp
    · have := ih (by omega) (fun i hi hne => h i (by omega) hne)
      rw [h n (by omega) (by omega)]; omega
theorem ct0_pos {n a : Nat} {f : Nat → Bool} (ha : a < n) (hf : f a = true) : 1 ≤ ct0 n f := by
  induction n with
  | zero => omega
  | succ n ih =>
    simp only [ct0]
    by_cases e : a = n
    · subst e; rw [hf]; simp
    · have := ih (by omega); omega
theorem ct0_true (n : Nat) {f : Nat → Bool} (h : ∀ i, i < n → f i = true) : ct0 n f = n := by
  induction n with
  | zero => rfl
  | succ n ih => simp only [ct0]; rw [ih (fun i hi => h i (by omega)), h n (by omega)]; rfl
theorem ct0_zero {n : Nat} {f : Nat → Bool} (h : ∀ i, i < n → f i = false) : ct0 n f = 0 := by
  induction n with
  | zero => rfl
  | succ n ih => simp only [ct0]; rw [ih (fun i hi => h i (by omega)), h n (by omega)]; rfl
/-- how many groups: the vertices that bear their group's name -/
def gc (N : Nat) (q : JS) : Nat := ct0 N (fun v => q.1 v == v)
/-- how many edges below k a set has -/
def sz (s k : Nat) : Nat := ct0 k (fun e => s.testBit e)
def jI (N : Nat) (q : JS) : Prop := ∀ v, v < N → q.1 v < N ∧ q.1 (q.1 v) = q.1 v
theorem jI0 (N : Nat) : jI N j0 := fun v hv => ⟨hv, rfl⟩
theorem jI_step {N a b e : Nat} {q : JS} (h : jI N q) (ha : a < N) (hb : b < N) : jI N (jStep a b e q) := by
  unfold jStep
  by_cases hg : q.1 a = q.1 b
  · rw [if_pos hg]; exact h
  · rw [if_neg hg]
    intro v hv
    show (if q.1 v = q.1 b then q.1 a else q.1 v) < N ∧ (if q.1 (if q.1 v = q.1 b then q.1 a else q.1 v) = q.1 b then q.1 a else q.1 (if q.1 v = q.1 b then q.1 a else q.1 v)) = (if q.1 v = q.1 b then q.1 a else q.1 v)
    by_cases hv2 : q.1 v = q.1 b
    · rw [if_pos hv2, (h a ha).2, if_neg hg]; exact ⟨(h a ha).1, rfl⟩
    · rw [if_neg hv2, (h v hv).2, if_neg hv2]; exact ⟨(h v hv).1, rfl⟩
theorem gc_close {N a b e : Nat} {q : JS} (hg : q.1 a = q.1 b) : gc N (jStep a b e q) = gc N q := by
  unfold jStep; rw [if_pos hg]; rfl
theorem gc_join {N a b e : Nat} {q : JS} (h : jI N q) (ha : a < N) (hb : b < N) (hg : q.1 a ≠ q.1 b) : gc N (jStep a b e q) + 1 = gc N q := by
  unfold jStep; rw [if_neg hg]
  refine ct0_drop (a := q.1 b) (h b hb).1 (by rw [(h b hb).2]; simp) ?_ (fun i hi hne => ?_)
  · show ((if q.1 (q.1 b) = q.1 b then q.1 a else q.1 (q.1 b)) == q.1 b) = false
    rw [if_pos (h b hb).2, bne_of hg]
  · show ((if q.1 i = q.1 b then q.1 a else q.1 i) == i) = (q.1 i == i)
    by_cases hi2 : q.1 i = q.1 b
    · rw [if_pos hi2, bne_of (fun h2 => ?_), bne_of (fun h2 => hne (by rw [← hi2]; exact h2.symm))]
      have := (h a ha).2
      rw [h2, hi2] at this; exact hg (by rw [h2, ← this])
    · rw [if_neg hi2]
theorem jI_run {fr to : Nat → Nat} {N s : Nat} : ∀ k, (∀ e, e < k → s.testBit e = true → fr e < N ∧ to e < N) → jI N (jRun fr to s k)
  | 0, _ => jI0 N
  | k + 1, hN => by
    have ih := jI_run k (fun e he => hN e (by omega))
    unfold jRun
    cases hs : s.testBit k with
    | false => exact ih
    | true => rw [if_pos rfl]; exact jI_step ih (hN k (by omega) hs).1 (hN k (by omega) hs).2
theorem jd_close {a b e : Nat} {q : JS} (hg : q.1 a = q.1 b) : (jStep a b e q).2.2.1 = q.2.2.1 + 1 := by unfold jStep; rw [if_pos hg]
theorem jd_join {a b e : Nat} {q : JS} (hg : q.1 a ≠ q.1 b) : (jStep a b e q).2.2.1 = q.2.2.1 := by unfold jStep; rw [if_neg hg]
/-- groups and rings: together as many as vertices and what was not joined -/
theorem gc_run {fr to : Nat → Nat} {N s : Nat} : ∀ k, (∀ e, e < k → s.testBit e = true → fr e < N ∧ to e < N) → gc N (jRun fr to s k) + sz s k = N + (jRun fr to s k).2.2.1
  | 0, _ => by
    show gc N j0 + 0 = N + 0
    unfold gc
    rw [ct0_true N (fun i _ => by show (i == i) = true; simp)]
  | k + 1, hN => by
    have ih := gc_run k (fun e he => hN e (by omega))
    have hi := jI_run (fr := fr) (to := to) (N := N) (s := s) k (fun e he => hN e (by omega))
    show gc N (if s.testBit k then jStep (fr k) (to k) k (jRun fr to s k) else jRun fr to s k) + (sz s k + (if s.testBit k then 1 else 0)) = N + (if s.testBit k then jStep (fr k) (to k) k (jRun fr to s k) else jRun fr to s k).2.2.1
    cases hs : s.testBit k with
    | false => simp; exact ih
    | true =>
      simp only [if_pos]
      by_cases hg : (jRun fr to s k).1 (fr k) = (jRun fr to s k).1 (to k)
      · rw [gc_close hg, jd_close hg]; omega
      · have := gc_join (e := k) hi (hN k (by omega) hs).1 (hN k (by omega) hs).2 hg
        rw [jd_join hg]; omega
theorem gc_pos {fr to : Nat → Nat} {N s k : Nat} (h0 : 0 < N) (hN : ∀ e, e < k → s.testBit e = true → fr e < N ∧ to e < N) : 1 ≤ gc N (jRun fr to s k) := by
  have h := jI_run (fr := fr) (to := to) (N := N) (s := s) k hN 0 h0
  exact ct0_pos h.1 (by rw [h.2]; simp)
theorem gc_le (N : Nat) (q : JS) : gc N q ≤ N := ct0_le _ _
theorem jd_le {fr to : Nat → Nat} {s : Nat} : ∀ k, (jRun fr to s k).2.2.1 ≤ sz s k
  | 0 => Nat.le_refl _
  | k + 1 => by
    have ih := jd_le (fr := fr) (to := to) (s := s) k
    show (if s.testBit k then jStep (fr k) (to k) k (jRun fr to s k) else jRun fr to s k).2.2.1 ≤ sz s k + (if s.testBit k then 1 else 0)
    cases hs : s.testBit k with
    | false => simpa using ih
    | true =>
      simp only [if_pos]
      by_cases hg : (jRun fr to s k).1 (fr k) = (jRun fr to s k).1 (to k)
      · rw [jd_close hg]; omega
      · rw [jd_join hg]; omega
theorem sz_le (s k : Nat) : sz s k ≤ k := ct0_le _ _
theorem jd_lt {fr to : Nat → Nat} {s k : Nat} : (jRun fr to s k).2.2.1 ≤ k := Nat.le_trans (jd_le k) (sz_le s k)
/-- all edges below m -/
abbrev fl (m : Nat) : Nat := 2 ^ m - 1
theorem fl_bit {m e : Nat} : (fl m).testBit e = decide (e < m) := Nat.testBit_two_pow_sub_one m e
theorem jRun_all {fr to : Nat → Nat} {m k : Nat} (hk : k < m) : jRun fr to (fl m) (k + 1) = jStep (fr k) (to k) k (jRun fr to (fl m) k) := by
  show (if (fl m).testBit k then jStep (fr k) (to k) k (jRun fr to (fl m) k) else jRun fr to (fl m) k) = _
  rw [fl_bit, if_pos (by simp [hk])]
theorem jRun_in {fr to : Nat → Nat} {s k : Nat} (hs : s.testBit k = true) : jRun fr to s (k + 1) = jStep (fr k) (to k) k (jRun fr to s k) := by
  show (if s.testBit k then jStep (fr k) (to k) k (jRun fr to s k) else jRun fr to s k) = _
  rw [if_pos hs]
theorem jRun_out {fr to : Nat → Nat} {s k : Nat} (hs : ¬ s.testBit k = true) : jRun fr to s (k + 1) = jRun fr to s k := by
  show (if s.testBit k then jStep (fr k) (to k) k (jRun fr to s k) else jRun fr to s k) = _
  rw [if_neg hs]
theorem sz_fl (m : Nat) : sz (fl m) m = m := ct0_true m (fun i hi => by rw [fl_bit]; simp [hi])
theorem gc_all {fr to : Nat → Nat} {N m : Nat} (hN : ∀ e, e < m → fr e < N ∧ to e < N) : gc N (jRun fr to (fl m) m) + m = N + (jRun fr to (fl m) m).2.2.1 := by
  have := gc_run (fr := fr) (to := to) (N := N) (s := fl m) m (fun e he _ => hN e he)
  rw [sz_fl] at this; exact this
/-- of the whole graph: the dimension, the closed rings, their closing edges, the even sets by their codes, their weights -/
abbrev dmA (fr to : Nat → Nat) (m : Nat) : Nat := (jRun fr to (fl m) m).2.2.1
abbrev rgA (fr to : Nat → Nat) (m : Nat) : Nat → Nat := (jRun fr to (fl m) m).2.2.2.1
abbrev czA (fr to : Nat → Nat) (m : Nat) : Nat → Nat := (jRun fr to (fl m) m).2.2.2.2
abbrev elA (fr to : Nat → Nat) (m c : Nat) : Nat := cb (rgA fr to m) (dmA fr to m) c
theorem cb_lt {r : Nat → Nat} {m : Nat} : ∀ {d c : Nat}, (∀ i, i < d → ∀ e, (r i).testBit e = true → e < m) → cb r d c < 2 ^ m := by
  intro d c h
  refine Nat.lt_pow_two_of_testBit _ (fun e he => ?_)
  rw [cb_bit]
  refine xs_false _ (fun i hi => ?_)
  cases hr : (r i).testBit e with
  | false => simp
  | true => exact absurd (h i hi e hr) (by omega)
theorem jA {fr to : Nat → Nat} {N m : Nat} (hm : m ≤ 64) (hN : ∀ e, e < m → fr e < N ∧ to e < N) : jOK fr to N (fl m) m (jRun fr to (fl m) m) := jOK_run m hm (fun e he _ => hN e he)
theorem elA_lt {fr to : Nat → Nat} {N m : Nat} (hm : m ≤ 64) (hN : ∀ e, e < m → fr e < N ∧ to e < N) {i c : Nat} (hi : i ≤ dmA fr to m) : cb (rgA fr to m) i c < 2 ^ m :=
  cb_lt (fun j hj e he => ((jA hm hN).2.2.2.2.1 j (Nat.lt_of_lt_of_le hj hi)).2.2.2.1 e he |>.1)
theorem cb_0 (r : Nat → Nat) : ∀ d, cb r d 0 = 0
  | 0 => rfl
  | d + 1 => by simp [cb, cb_0 r d]
theorem ct0_t {n : Nat} {f : Nat → Bool} (h : f n = true) : ct0 (n + 1) f = ct0 n f + 1 := by simp only [ct0]; rw [if_pos h]
theorem ct0_f {n : Nat} {f : Nat → Bool} (h : f n = false) : ct0 (n + 1) f = ct0 n f := by simp only [ct0]; rw [if_neg (by rw [h]; decide), Nat.add_zero]
