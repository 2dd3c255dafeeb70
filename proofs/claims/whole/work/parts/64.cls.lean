-- for the class's own walks
theorem jr_top {fr to : Nat → Nat} {N s k : Nat} {q : JS} (h : jOK fr to N s k q) (hk : k < 64) (ha : fr k < N) (hb : to k < N) : jr q (fr k) (to k) k ≠ 0 ∧ jr q (fr k) (to k) k < 2 ^ (k + 1) := by
  have h1 : (jr q (fr k) (to k) k).testBit k = true := by
    rw [jr_not (bool_f (fun e => absurd (h.2.2.1 _ ha k e).1 (Nat.lt_irrefl _))) (bool_f (fun e => absurd (h.2.2.1 _ hb k e).1 (Nat.lt_irrefl _)))]; simp
  refine ⟨fun h0 => absurd h1 (by rw [h0, Nat.zero_testBit]; decide), Nat.lt_pow_two_of_testBit _ (fun i hi => bool_f (fun hb2 => ?_))⟩
  rcases jr_bit hb2 with e | e | e
  · have := (h.2.2.1 _ ha i e).1; omega
  · have := (h.2.2.1 _ hb i e).1; omega
  · omega
theorem jd_mono {fr to : Nat → Nat} {s k : Nat} : (jRun fr to s k).2.2.1 ≤ (jRun fr to s (k + 1)).2.2.1 := by
  by_cases hs : s.testBit k = true
  · rw [jRun_in hs]
    by_cases hg : (jRun fr to s k).1 (fr k) = (jRun fr to s k).1 (to k)
    · rw [jd_close hg]; omega
    · rw [jd_join hg]; exact Nat.le_refl _
  · rw [jRun_out hs]; exact Nat.le_refl _
theorem jd_mono2 {fr to : Nat → Nat} {s k : Nat} : ∀ n, k ≤ n → (jRun fr to s k).2.2.1 ≤ (jRun fr to s n).2.2.1
  | 0, h => by have : k = 0 := by omega
               rw [this]; exact Nat.le_refl _
  | n + 1, h => by
    by_cases e : k = n + 1
    · rw [e]; exact Nat.le_refl _
    · exact Nat.le_trans (jd_mono2 n (by omega)) jd_mono
theorem lN_sub1 (m : Nat) : lN (2 ^ m) - 1 = lN (fl m) := lN_sub (a := 2 ^ m) (b := 1) (Nat.two_pow_pos m)
theorem fl_lt (m : Nat) (h : m ≤ 40) : fl m < 2 ^ 62 := by
  have h1 : 2 ^ m ≤ 2 ^ 40 := Nat.pow_le_pow_right (by omega) h
  have h2 := Nat.two_pow_pos m
  show 2 ^ m - 1 < 2 ^ 62
  omega
theorem or_pow {a i : Nat} (ha : a < 2 ^ i) (hi : i < 63) : lN a ||| lN (2 ^ i) = lN (a + 2 ^ i) := by
  have h1 : a ||| 2 ^ i = a + 2 ^ i := by
    have := Nat.two_pow_add_eq_or_of_lt ha 1
    rw [Nat.mul_one] at this
    rw [Nat.or_comm, ← this, Nat.add_comm]
  have h2 : 2 ^ i < 2 ^ 63 := Nat.pow_lt_pow_right (by omega) hi
  rw [wb_or (by omega) (by omega), h1]
theorem dg_out {fr to : Nat → Nat} {z v : Nat} : ∀ {m}, (∀ e, e < m → fr e ≠ v ∧ to e ≠ v) → dg fr to z m v = 0
  | 0, _ => rfl
  | m + 1, h => by
    simp only [dg]
    rw [dg_out (fun e he => h e (by omega)), if_neg (h m (by omega)).1, if_neg (h m (by omega)).2]
    split <;> rfl
theorem jS_rg {a b e : Nat} {q : JS} (h : q.1 a ≠ q.1 b) : (jStep a b e q).2.2.2.1 = q.2.2.2.1 := by unfold jStep; rw [if_neg h]
theorem jS_rgc {a b e : Nat} {q : JS} (h : q.1 a = q.1 b) : (jStep a b e q).2.2.2.1 = va_up q.2.2.2.1 q.2.2.1 (jr q a b e) := by unfold jStep; rw [if_pos h]
