theorem up_self {α : Type} {f : Nat → α} {k : Nat} {v : α} : va_up f k v k = v := if_pos rfl
theorem up_ne {α : Type} {f : Nat → α} {k j : Nat} {v : α} (h : j ≠ k) : va_up f k v j = f j := if_neg h
-- sets of edges as numbers (bit e for edge e); parities, cuts, and the joining of edges
def xs : Nat → (Nat → Bool) → Bool
  | 0, _ => false
  | n + 1, f => xs n f ^^ f n
theorem xs_congr {n : Nat} {f g : Nat → Bool} (h : ∀ i, i < n → f i = g i) : xs n f = xs n g := by
  induction n with
  | zero => rfl
  | succ n ih => simp only [xs]; rw [ih (fun i hi => h i (by omega)), h n (by omega)]
theorem xs_xor (n : Nat) (f g : Nat → Bool) : xs n (fun i => f i ^^ g i) = (xs n f ^^ xs n g) := by
  induction n with
  | zero => rfl
  | succ n ih => simp only [xs]; rw [ih]; cases xs n f <;> cases xs n g <;> cases f n <;> cases g n <;> rfl
theorem xs_false (n : Nat) {f : Nat → Bool} (h : ∀ i, i < n → f i = false) : xs n f = false := by
  induction n with
  | zero => rfl
  | succ n ih => simp only [xs]; rw [ih (fun i hi => h i (by omega)), h n (by omega)]; rfl
theorem xs_one {n a : Nat} (ha : a < n) (f : Nat → Bool) (h : ∀ i, i < n → i ≠ a → f i = false) : xs n f = f a := by
  induction n with
  | zero => omega
  | succ n ih =>
    simp only [xs]
    by_cases e : a = n
    · subst e; rw [xs_false _ (fun i hi => h i (by omega) (by omega))]; cases f a <;> rfl
    · rw [ih (by omega) (fun i hi hne => h i (by omega) hne), h n (by omega) (by omega)]; cases f a <;> rfl
/-- how many ends at v, of the edges below 64 of a set, taken modulo two -/
def bd (fr to : Nat → Nat) (s v : Nat) : Bool := xs 64 (fun e => s.testBit e && ((fr e == v) ^^ (to e == v)))
/-- how many edges of a set cross S, modulo two -/
def cr (fr to : Nat → Nat) (s : Nat) (S : Nat → Bool) : Bool := xs 64 (fun e => s.testBit e && (S (fr e) ^^ S (to e)))
theorem bd_zero (fr to : Nat → Nat) (v : Nat) : bd fr to 0 v = false := xs_false _ (fun i _ => by simp)
theorem bd_xor (fr to : Nat → Nat) (s t v : Nat) : bd fr to (s ^^^ t) v = (bd fr to s v ^^ bd fr to t v) := by
  unfold bd
  rw [← xs_xor]
  refine xs_congr (fun i _ => ?_)
  rw [Nat.testBit_xor]
  cases s.testBit i <;> cases t.testBit i <;> cases ((fr i == v) ^^ (to i == v)) <;> rfl
theorem bd_pow {fr to : Nat → Nat} {e : Nat} (he : e < 64) (v : Nat) : bd fr to (2 ^ e) v = ((fr e == v) ^^ (to e == v)) := by
  unfold bd
  rw [xs_one he]
  · rw [Nat.testBit_two_pow_self]; simp
  · intro i _ hne
    rw [Nat.testBit_two_pow_of_ne (fun h => hne h.symm)]; rfl
theorem cr_xor (fr to : Nat → Nat) (s t : Nat) (S : Nat → Bool) : cr fr to (s ^^^ t) S = (cr fr to s S ^^ cr fr to t S) := by
  unfold cr
  rw [← xs_xor]
  refine xs_congr (fun i _ => ?_)
  rw [Nat.testBit_xor]
  cases s.testBit i <;> cases t.testBit i <;> cases (S (fr i) ^^ S (to i)) <;> rfl
theorem xs_pick {N a : Nat} (ha : a < N) (S : Nat → Bool) : xs N (fun v => S v && (a == v)) = S a := by
  rw [xs_one ha]
  · simp
  · intro i _ hne
    have : (a == i) = false := by simp; omega
    simp [this]
theorem xs_and (N : Nat) (b : Bool) (f : Nat → Bool) : xs N (fun v => b && f v) = (b && xs N f) := by
  induction N with
  | zero => cases b <;> rfl
  | succ n ih => simp only [xs]; rw [ih]; cases b <;> cases xs n f <;> cases f n <;> rfl
theorem xs_swap (m N : Nat) (f : Nat → Nat → Bool) : xs m (fun e => xs N (fun v => f e v)) = xs N (fun v => xs m (fun e => f e v)) := by
  induction m with
  | zero => simp only [xs]; exact (xs_false _ (fun _ _ => rfl)).symm
  | succ m ih => simp only [xs]; rw [ih, ← xs_xor]
/-- crossing, by the ends inside -/
theorem cr_bd {fr to : Nat → Nat} {N s : Nat} (hN : ∀ e, s.testBit e = true → fr e < N ∧ to e < N) (S : Nat → Bool) : cr fr to s S = xs N (fun v => S v && bd fr to s v) := by
  unfold cr bd
  have h1 : xs N (fun v => S v && xs 64 (fun e => s.testBit e && ((fr e == v) ^^ (to e == v)))) = xs N (fun v => xs 64 (fun e => S v && (s.testBit e && ((fr e == v) ^^ (to e == v))))) := xs_congr (fun v _ => (xs_and _ _ _).symm)
  rw [h1, ← xs_swap]
  refine xs_congr (fun e _ => ?_)
  cases hb : s.testBit e with
  | false => simp only [Bool.false_and, Bool.and_false]; exact (xs_false _ (fun _ _ => rfl)).symm
  | true =>
    obtain ⟨ha, hb'⟩ := hN e hb
    have h2 : xs N (fun v => S v && (true && ((fr e == v) ^^ (to e == v)))) = xs N (fun v => (S v && (fr e == v)) ^^ (S v && (to e == v))) := xs_congr (fun v _ => by cases S v <;> cases (fr e == v) <;> cases (to e == v) <;> rfl)
    rw [h2, xs_xor, xs_pick ha, xs_pick hb']; rfl
theorem cr_even {fr to : Nat → Nat} {N s : Nat} (hN : ∀ e, s.testBit e = true → fr e < N ∧ to e < N) (h : ∀ v, bd fr to s v = false) (S : Nat → Bool) : cr fr to s S = false := by
  rw [cr_bd hN]
  exact xs_false _ (fun v _ => by rw [h v]; simp)
theorem cr_ends {fr to : Nat → Nat} {N s a b : Nat} (hN : ∀ e, s.testBit e = true → fr e < N ∧ to e < N) (ha : a < N) (hb : b < N) (h : ∀ v, bd fr to s v = ((a == v) ^^ (b == v))) (S : Nat → Bool) : cr fr to s S = (S a ^^ S b) := by
  rw [cr_bd hN]
  have h2 : xs N (fun v => S v && bd fr to s v) = xs N (fun v => (S v && (a == v)) ^^ (S v && (b == v))) := xs_congr (fun v _ => by rw [h v]; cases S v <;> cases (a == v) <;> cases (b == v) <;> rfl)
  rw [h2, xs_xor, xs_pick ha, xs_pick hb]
/-- groups' names, ways, how many rings closed so far, the rings, their closing edges -/
abbrev JS : Type := (Nat → Nat) × (Nat → Nat) × Nat × (Nat → Nat) × (Nat → Nat)
def j0 : JS := (fun v => v, fun _ => 0, 0, fun _ => 0, fun _ => 0)
def jr (q : JS) (a b e : Nat) : Nat := q.2.1 a ^^^ q.2.1 b ^^^ 2 ^ e
def jStep (a b e : Nat) (q : JS) : JS :=
  if q.1 a = q.1 b then (q.1, q.2.1, q.2.2.1 + 1, va_up q.2.2.2.1 q.2.2.1 (jr q a b e), va_up q.2.2.2.2 q.2.2.1 e)
  else (fun v => if q.1 v = q.1 b then q.1 a else q.1 v, fun v => if q.1 v = q.1 b then q.2.1 v ^^^ jr q a b e else q.2.1 v, q.2.2.1, q.2.2.2.1, q.2.2.2.2)
def jRun (fr to : Nat → Nat) (s : Nat) : Nat → JS
  | 0 => j0
  | k + 1 => if s.testBit k then jStep (fr k) (to k) k (jRun fr to s k) else jRun fr to s k
/-- what holds of the joining of the edges below k of a set s, among vertices below N -/
def jOK (fr to : Nat → Nat) (N s k : Nat) (q : JS) : Prop :=
  (∀ v, v < N → q.1 v < N) ∧
  (∀ v, v < N → ∀ x, bd fr to (q.2.1 v) x = ((v == x) ^^ (q.1 v == x))) ∧
  (∀ v, v < N → ∀ e, (q.2.1 v).testBit e = true → e < k ∧ s.testBit e = true ∧ ∀ i, i < q.2.2.1 → q.2.2.2.2 i ≠ e) ∧
  (∀ e, e < k → s.testBit e = true → q.1 (fr e) = q.1 (to e)) ∧
  (∀ i, i < q.2.2.1 → q.2.2.2.2 i < k ∧ s.testBit (q.2.2.2.2 i) = true ∧ (∀ x, bd fr to (q.2.2.2.1 i) x = false) ∧ (∀ e, (q.2.2.2.1 i).testBit e = true → e < k ∧ s.testBit e = true) ∧ ∀ j, j < q.2.2.1 → (q.2.2.2.1 i).testBit (q.2.2.2.2 j) = (i == j)) ∧
  (∀ z, (∀ x, bd fr to z x = false) → (∀ e, z.testBit e = true → e < k ∧ s.testBit e = true ∧ ∀ i, i < q.2.2.1 → q.2.2.2.2 i ≠ e) → z = 0)
theorem bne_of {a b : Nat} (h : a ≠ b) : (a == b) = false := by simp [h]
theorem jOK0 (fr to : Nat → Nat) (N s : Nat) : jOK fr to N s 0 j0 := by
  refine ⟨fun v h => h, fun v _ x => ?_, fun v _ e h => ?_, fun e h => by omega, fun i h => absurd h (Nat.not_lt_zero _), fun z _ h => ?_⟩
  · show bd fr to 0 x = ((v == x) ^^ (v == x))
    rw [bd_zero]; cases (v == x) <;> rfl
  · have h : (0 : Nat).testBit e = true := h
    rw [Nat.zero_testBit] at h; cases h
  · refine Nat.eq_of_testBit_eq (fun i => ?_)
    rw [Nat.zero_testBit]
    cases hz : z.testBit i with
    | false => rfl
    | true => exact absurd (h i hz).1 (Nat.not_lt_zero _)
theorem jOK_skip {fr to : Nat → Nat} {N s k : Nat} {q : JS} (h : jOK fr to N s k q) (hs : s.testBit k = false) : jOK fr to N s (k + 1) q := by
  obtain ⟨h1, h2, h3, h4, h5, h6⟩ := h
  have hne : ∀ e, s.testBit e = true → e < k + 1 → e < k := by
    intro e he hlt
    rcases Nat.lt_or_ge e k with q | q
    · exact q
    · have : e = k := by omega
      subst this; rw [hs] at he; cases he
  refine ⟨h1, h2, fun v hv e he => ?_, fun e he hb => h4 e (hne e hb he) hb, fun i hi => ?_, fun z hz hb => h6 z hz (fun e he => ?_)⟩
  · obtain ⟨a, b, c⟩ := h3 v hv e he; exact ⟨by omega, b, c⟩
  · obtain ⟨a, b, c, d, e⟩ := h5 i hi
    exact ⟨by omega, b, c, fun e he => ⟨by have := (d e he).1; omega, (d e he).2⟩, e⟩
  · obtain ⟨a, b, c⟩ := hb e he; exact ⟨hne e b a, b, c⟩
theorem jr_bit {q : JS} {a b k e : Nat} (h : (jr q a b k).testBit e = true) : (q.2.1 a).testBit e = true ∨ (q.2.1 b).testBit e = true ∨ e = k := by
  unfold jr at h
  rw [Nat.testBit_xor, Nat.testBit_xor] at h
  by_cases hk : e = k
  · exact Or.inr (Or.inr hk)
  · rw [Nat.testBit_two_pow_of_ne (fun h => hk h.symm)] at h
    cases ha : (q.2.1 a).testBit e with
    | true => exact Or.inl rfl
    | false =>
      cases hb : (q.2.1 b).testBit e with
      | true => exact Or.inr (Or.inl rfl)
      | false => rw [ha, hb] at h; cases h
theorem jr_not {q : JS} {a b k e : Nat} (ha : (q.2.1 a).testBit e = false) (hb : (q.2.1 b).testBit e = false) : (jr q a b k).testBit e = (k == e) := by
  unfold jr
  rw [Nat.testBit_xor, Nat.testBit_xor, ha, hb]
  by_cases hk : k = e
  · subst hk; rw [Nat.testBit_two_pow_self]; simp
  · rw [Nat.testBit_two_pow_of_ne hk, bne_of hk]; rfl
theorem jr_bd {fr to : Nat → Nat} {N s k : Nat} {q : JS} (h : jOK fr to N s k q) (hk : k < 64) (ha : fr k < N) (hb : to k < N) (x : Nat) : bd fr to (jr q (fr k) (to k) k) x = ((q.1 (fr k) == x) ^^ (q.1 (to k) == x)) := by
  unfold jr
  rw [bd_xor, bd_xor, bd_pow hk, h.2.1 _ ha, h.2.1 _ hb]
  cases (fr k == x) <;> cases (to k == x) <;> cases (q.1 (fr k) == x) <;> cases (q.1 (to k) == x) <;> rfl
theorem bool_f {x : Bool} (h : ¬ x = true) : x = false := by cases x; rfl; exact absurd rfl h
theorem jOK_close {fr to : Nat → Nat} {N s k : Nat} {q : JS} (h : jOK fr to N s k q) (hk : k < 64) (ha : fr k < N) (hb : to k < N) (hs : s.testBit k = true) (hg : q.1 (fr k) = q.1 (to k)) : jOK fr to N s (k + 1) (jStep (fr k) (to k) k q) := by
  have hbd := jr_bd h hk ha hb
  obtain ⟨h1, h2, h3, h4, h5, h6⟩ := h
  have hwk : ∀ v, v < N → (q.2.1 v).testBit k = false := fun v hv => bool_f (fun e => absurd (h3 v hv k e).1 (Nat.lt_irrefl _))
  unfold jStep
  rw [if_pos hg]
  refine ⟨h1, h2, fun v hv e he => ?_, fun e he hb => ?_, fun i hi => ?_, fun z hz hb => h6 z hz (fun e he => ?_)⟩
  · obtain ⟨a, b, c⟩ := h3 v hv e he
    refine ⟨by omega, b, fun i hi => ?_⟩
    show va_up q.2.2.2.2 q.2.2.1 k i ≠ e
    by_cases hd : i = q.2.2.1
    · rw [hd, up_self]; omega
    · rw [up_ne hd]; exact c i (by have hi : i < q.2.2.1 + 1 := hi; omega)
  · rcases Nat.lt_or_ge e k with q' | q'
    · exact h4 e q' hb
    · have : e = k := by omega
      subst this; exact hg
  · have hi : i < q.2.2.1 + 1 := hi
    show va_up q.2.2.2.2 q.2.2.1 k i < k + 1 ∧ s.testBit (va_up q.2.2.2.2 q.2.2.1 k i) = true ∧ (∀ x, bd fr to (va_up q.2.2.2.1 q.2.2.1 (jr q (fr k) (to k) k) i) x = false) ∧ (∀ e, (va_up q.2.2.2.1 q.2.2.1 (jr q (fr k) (to k) k) i).testBit e = true → e < k + 1 ∧ s.testBit e = true) ∧ ∀ j, j < q.2.2.1 + 1 → (va_up q.2.2.2.1 q.2.2.1 (jr q (fr k) (to k) k) i).testBit (va_up q.2.2.2.2 q.2.2.1 k j) = (i == j)
    by_cases hd : i = q.2.2.1
    · subst hd
      rw [up_self, up_self]
      refine ⟨by omega, hs, fun x => ?_, fun e he => ?_, fun j hj => ?_⟩
      · rw [hbd, hg]; cases (q.1 (to k) == x) <;> rfl
      · rcases jr_bit he with e1 | e1 | e1
        · exact ⟨by have := (h3 _ ha e e1).1; omega, (h3 _ ha e e1).2.1⟩
        · exact ⟨by have := (h3 _ hb e e1).1; omega, (h3 _ hb e e1).2.1⟩
        · subst e1; exact ⟨by omega, hs⟩
      · by_cases hd : j = q.2.2.1
        · subst hd
          rw [up_self, jr_not (hwk _ ha) (hwk _ hb)]; simp
        · rw [up_ne hd]
          have hj' : j < q.2.2.1 := by omega
          rw [jr_not (bool_f (fun e => (h3 _ ha _ e).2.2 j hj' rfl)) (bool_f (fun e => (h3 _ hb _ e).2.2 j hj' rfl)), bne_of (by have := (h5 j hj').1; omega), bne_of (by omega)]
    · have hi' : i < q.2.2.1 := by omega
      obtain ⟨a, b, c, d, e⟩ := h5 i hi'
      rw [up_ne hd, up_ne hd]
      refine ⟨by omega, b, c, fun e he => ⟨by have := (d e he).1; omega, (d e he).2⟩, fun j hj => ?_⟩
      by_cases hd2 : j = q.2.2.1
      · subst hd2
        rw [up_self, bne_of hd]
        exact bool_f (fun he => absurd (d k he).1 (Nat.lt_irrefl _))
      · rw [up_ne hd2]; exact e j (by omega)
  · obtain ⟨a, b, c⟩ := hb e he
    have hek : e ≠ k := by
      intro hh
      refine c q.2.2.1 (by show q.2.2.1 < q.2.2.1 + 1; omega) ?_
      show va_up q.2.2.2.2 q.2.2.1 k q.2.2.1 = e
      rw [up_self]; exact hh.symm
    refine ⟨by omega, b, fun i hi => ?_⟩
    have := c i (by show i < q.2.2.1 + 1; omega)
    have this : va_up q.2.2.2.2 q.2.2.1 k i ≠ e := this
    rw [up_ne (by omega)] at this; exact this
theorem jOK_join {fr to : Nat → Nat} {N s k : Nat} {q : JS} (h : jOK fr to N s k q) (hk : k < 64) (hN : ∀ e, e < k + 1 → s.testBit e = true → fr e < N ∧ to e < N) (hs : s.testBit k = true) (hg : q.1 (fr k) ≠ q.1 (to k)) : jOK fr to N s (k + 1) (jStep (fr k) (to k) k q) := by
  obtain ⟨ha, hb⟩ := hN k (by omega) hs
  have hbd := jr_bd h hk ha hb
  obtain ⟨h1, h2, h3, h4, h5, h6⟩ := h
  have hring : ∀ e, (jr q (fr k) (to k) k).testBit e = true → e < k + 1 ∧ s.testBit e = true ∧ ∀ i, i < q.2.2.1 → q.2.2.2.2 i ≠ e := by
    intro e he
    rcases jr_bit he with e1 | e1 | e1
    · obtain ⟨a, b, c⟩ := h3 _ ha e e1; exact ⟨by omega, b, c⟩
    · obtain ⟨a, b, c⟩ := h3 _ hb e e1; exact ⟨by omega, b, c⟩
    · subst e1; exact ⟨by omega, hs, fun i hi => by have := (h5 i hi).1; omega⟩
  unfold jStep
  rw [if_neg hg]
  refine ⟨fun v hv => ?_, fun v hv x => ?_, fun v hv e he => ?_, fun e he hbt => ?_, fun i hi => ?_, fun z hz hzb => ?_⟩
  · show (if q.1 v = q.1 (to k) then q.1 (fr k) else q.1 v) < N
    split
    · exact h1 _ ha
    · exact h1 _ hv
  · show bd fr to (if q.1 v = q.1 (to k) then q.2.1 v ^^^ jr q (fr k) (to k) k else q.2.1 v) x = ((v == x) ^^ ((if q.1 v = q.1 (to k) then q.1 (fr k) else q.1 v) == x))
    by_cases hv2 : q.1 v = q.1 (to k)
    · rw [if_pos hv2, if_pos hv2, bd_xor, h2 _ hv, hbd, hv2]
      cases (v == x) <;> cases (q.1 (fr k) == x) <;> cases (q.1 (to k) == x) <;> rfl
    · rw [if_neg hv2, if_neg hv2]; exact h2 _ hv x
  · have he : (if q.1 v = q.1 (to k) then q.2.1 v ^^^ jr q (fr k) (to k) k else q.2.1 v).testBit e = true := he
    show e < k + 1 ∧ s.testBit e = true ∧ ∀ i, i < q.2.2.1 → q.2.2.2.2 i ≠ e
    by_cases hv2 : q.1 v = q.1 (to k)
    · rw [if_pos hv2, Nat.testBit_xor] at he
      cases hw : (q.2.1 v).testBit e with
      | true => obtain ⟨a, b, c⟩ := h3 v hv e hw; exact ⟨by omega, b, c⟩
      | false => rw [hw, Bool.false_xor] at he; exact hring e he
    · rw [if_neg hv2] at he
      obtain ⟨a, b, c⟩ := h3 v hv e he; exact ⟨by omega, b, c⟩
  · show (if q.1 (fr e) = q.1 (to k) then q.1 (fr k) else q.1 (fr e)) = (if q.1 (to e) = q.1 (to k) then q.1 (fr k) else q.1 (to e))
    rcases Nat.lt_or_ge e k with q' | q'
    · rw [h4 e q' hbt]
    · have : e = k := by omega
      subst this; rw [if_neg hg, if_pos rfl]
  · obtain ⟨a, b, c, d, e⟩ := h5 i hi
    exact ⟨by show q.2.2.2.2 i < k + 1; omega, b, c, fun e he => ⟨by have := (d e he).1; omega, (d e he).2⟩, e⟩
  · have hzk : z.testBit k = false := by
      refine bool_f (fun hzk => ?_)
      have hc := cr_even (N := N) (fun e he => hN e (hzb e he).1 (hzb e he).2.1) hz (fun v => q.1 v == q.1 (to k))
      unfold cr at hc
      rw [xs_one hk] at hc
      · dsimp only at hc; rw [hzk, bne_of hg] at hc; simp at hc
      · intro i _ hne
        cases hi : z.testBit i with
        | false => rfl
        | true =>
          obtain ⟨a, b, c⟩ := hzb i hi
          dsimp only; rw [h4 i (by omega) b]; cases (q.1 (to i) == q.1 (to k)) <;> rfl
    refine h6 z hz (fun e he => ?_)
    obtain ⟨a, b, c⟩ := hzb e he
    refine ⟨?_, b, c⟩
    rcases Nat.lt_or_ge e k with q' | q'
    · exact q'
    · have : e = k := by omega
      subst this; rw [hzk] at he; cases he
/-- the joining, for every set and as far as one likes -/
theorem jOK_run {fr to : Nat → Nat} {N s : Nat} : ∀ k, k ≤ 64 → (∀ e, e < k → s.testBit e = true → fr e < N ∧ to e < N) → jOK fr to N s k (jRun fr to s k)
  | 0, _, _ => jOK0 fr to N s
  | k + 1, hk, hN => by
    have ih := jOK_run k (by omega) (fun e he => hN e (by omega))
    unfold jRun
    cases hs : s.testBit k with
    | false => exact jOK_skip ih hs
    | true =>
      rw [if_pos rfl]
      by_cases hg : (jRun fr to s k).1 (fr k) = (jRun fr to s k).1 (to k)
      · exact jOK_close ih (by omega) (hN k (by omega) hs).1 (hN k (by omega) hs).2 hs hg
      · exact jOK_join ih (by omega) hN hs hg
/-- the sum of those of the rings r 0 .. r (d - 1) whose bit is in c -/
def cb (r : Nat → Nat) : Nat → Nat → Nat
  | 0, _ => 0
  | i + 1, c => cb r i c ^^^ (if c.testBit i then r i else 0)
theorem cb_bit (r : Nat → Nat) (e : Nat) : ∀ d c, (cb r d c).testBit e = xs d (fun i => c.testBit i && (r i).testBit e)
  | 0, c => by simp [cb, xs]
  | d + 1, c => by
    simp only [cb, xs]
    rw [Nat.testBit_xor, cb_bit r e d c]
    cases c.testBit d <;> simp
theorem cb_bd (fr to : Nat → Nat) (r : Nat → Nat) (x : Nat) : ∀ d c, (∀ i, i < d → bd fr to (r i) x = false) → bd fr to (cb r d c) x = false
  | 0, c, _ => by simp only [cb]; exact bd_zero fr to x
  | d + 1, c, h => by
    simp only [cb]
    rw [bd_xor, cb_bd fr to r x d c (fun i hi => h i (by omega))]
    split
    · rw [h d (by omega)]; rfl
    · rw [bd_zero]; rfl
theorem cb_xor (r : Nat → Nat) : ∀ d a b, cb r d (a ^^^ b) = cb r d a ^^^ cb r d b
  | 0, a, b => by simp [cb]
  | d + 1, a, b => by
    refine Nat.eq_of_testBit_eq (fun e => ?_)
    rw [Nat.testBit_xor, cb_bit, cb_bit, cb_bit, ← xs_xor]
    refine xs_congr (fun i _ => ?_)
    rw [Nat.testBit_xor]
    cases a.testBit i <;> cases b.testBit i <;> cases (r i).testBit e <;> rfl
/-- the number whose bits below d are those of f -/
def nb (f : Nat → Bool) : Nat → Nat
  | 0 => 0
  | i + 1 => nb f i + (if f i then 2 ^ i else 0)
theorem nb_lt (f : Nat → Bool) : ∀ d, nb f d < 2 ^ d
  | 0 => by simp [nb]
  | d + 1 => by
    have := nb_lt f d
    simp only [nb]
    rw [Nat.pow_succ]
    split <;> omega
theorem nb_bit (f : Nat → Bool) : ∀ d i, (nb f d).testBit i = (decide (i < d) && f i)
  | 0, i => by simp [nb]
  | d + 1, i => by
    have hl := nb_lt f d
    simp only [nb]
    by_cases hi : i = d
    · subst hi
      have h0 : (nb f i).testBit i = false := Nat.testBit_lt_two_pow hl
      cases hf : f i with
      | false => simp [h0]
      | true =>
        rw [if_pos rfl, Nat.add_comm, Nat.testBit_two_pow_add_eq, h0]; simp
    · rcases Nat.lt_or_ge i d with hlt | hge
      · have h2 : (nb f d + (if f d then 2 ^ d else 0)).testBit i = (nb f d).testBit i := by
          split
          · rw [Nat.add_comm, Nat.testBit_two_pow_add_gt hlt]
          · rw [Nat.add_zero]
        rw [h2, nb_bit f d i]
        simp [hlt, Nat.lt_succ_of_lt hlt]
      · have h3 : nb f d + (if f d then 2 ^ d else 0) < 2 ^ i := by
          have : 2 ^ (d + 1) ≤ 2 ^ i := Nat.pow_le_pow_right (by omega) (by omega)
          rw [Nat.pow_succ] at this
          split <;> omega
        rw [Nat.testBit_lt_two_pow h3]
        simp; omega
/-- every even set within s is the sum of rings that its closing edges name -/
theorem jOK_span {fr to : Nat → Nat} {N s k : Nat} {q : JS} (h : jOK fr to N s k q) {z : Nat} (hz : ∀ x, bd fr to z x = false) (hb : ∀ e, z.testBit e = true → e < k ∧ s.testBit e = true) : z = cb q.2.2.2.1 q.2.2.1 (nb (fun i => z.testBit (q.2.2.2.2 i)) q.2.2.1) := by
  obtain ⟨h1, h2, h3, h4, h5, h6⟩ := h
  have hy := h6 (z ^^^ cb q.2.2.2.1 q.2.2.1 (nb (fun i => z.testBit (q.2.2.2.2 i)) q.2.2.1)) (fun x => by
    rw [bd_xor, hz x, cb_bd fr to _ x _ _ (fun i hi => (h5 i hi).2.2.1 x)]; rfl) (fun e he => by
    rw [Nat.testBit_xor, cb_bit] at he
    have hbit : e < k ∧ s.testBit e = true := by
      cases hze : z.testBit e with
      | true => exact hb e hze
      | false =>
        rw [hze, Bool.false_xor] at he
        have : ∃ i, i < q.2.2.1 ∧ (q.2.2.2.1 i).testBit e = true := by
          refine Classical.byContradiction (fun hn => ?_)
          rw [xs_false] at he
          · cases he
          · intro i hi
            cases hr : (q.2.2.2.1 i).testBit e with
            | false => simp
            | true => exact absurd ⟨i, hi, hr⟩ hn
        obtain ⟨i, hi, hr⟩ := this
        exact (h5 i hi).2.2.2.1 e hr
    refine ⟨hbit.1, hbit.2, fun j hj hje => ?_⟩
    subst hje
    rw [xs_one hj] at he
    · rw [nb_bit, (h5 j hj).2.2.2.2 j hj] at he
      simp [hj] at he
    · intro i hi hne
      rw [(h5 i hi).2.2.2.2 j hj, bne_of hne]; simp)
  have := congrArg (fun y => y ^^^ cb q.2.2.2.1 q.2.2.1 (nb (fun i => z.testBit (q.2.2.2.2 i)) q.2.2.1)) hy
  simpa [Nat.xor_assoc] using this
theorem jOK_code {fr to : Nat → Nat} {N s k : Nat} {q : JS} (h : jOK fr to N s k q) {c j : Nat} (hj : j < q.2.2.1) : (cb q.2.2.2.1 q.2.2.1 c).testBit (q.2.2.2.2 j) = c.testBit j := by
  rw [cb_bit, xs_one hj]
  · rw [(h.2.2.2.2.1 j hj).2.2.2.2 j hj]; simp
  · intro i hi hne
    rw [(h.2.2.2.2.1 i hi).2.2.2.2 j hj, bne_of hne]; simp
