/-- a sum of rationals -/
def qs : Nat → (Nat → Rat) → Rat
  | 0, _ => 0
  | n + 1, f => qs n f + f n
theorem qs_congr {n : Nat} {f g : Nat → Rat} (h : ∀ i, i < n → f i = g i) : qs n f = qs n g := by
  induction n with
  | zero => rfl
  | succ n ih => simp only [qs]; rw [ih (fun i hi => h i (by omega)), h n (by omega)]
theorem qs_lin {n : Nat} {f g : Nat → Rat} {x : Rat} : qs n (fun i => x * f i + g i) = x * qs n f + qs n g := by
  induction n with
  | zero => simp only [qs]; grind
  | succ n ih => simp only [qs]; rw [ih]; grind
theorem qs_zero {n : Nat} {f : Nat → Rat} (h : ∀ i, i < n → f i = 0) : qs n f = 0 := by
  induction n with
  | zero => rfl
  | succ n ih => simp only [qs]; rw [ih (fun i hi => h i (by omega)), h n (by omega)]; grind
theorem qs_one {n a : Nat} {f : Nat → Rat} (ha : a < n) (h : ∀ i, i < n → i ≠ a → f i = 0) : qs n f = f a := by
  induction n with
  | zero => omega
  | succ n ih =>
    simp only [qs]
    rcases Nat.lt_or_ge a n with q | q
    · rw [ih q (fun i hi => h i (by omega)), h n (by omega) (by omega)]; grind
    · have : a = n := by omega
      subst this
      rw [qs_zero (fun i hi => h i (by omega) (by omega))]; grind
theorem qs_two {n a b : Nat} {f : Nat → Rat} (ha : a < n) (hb : b < n) (hab : a < b) (h : ∀ i, i < n → i ≠ a → i ≠ b → f i = 0) : qs n f = f a + f b := by
  induction n with
  | zero => omega
  | succ n ih =>
    simp only [qs]
    rcases Nat.lt_or_ge b n with q | q
    · rw [ih (by omega) q (fun i hi => h i (by omega)), h n (by omega) (by omega) (by omega)]; grind
    · have : b = n := by omega
      subst this
      rw [qs_one hab (fun i hi h2 => h i (by omega) h2 (by omega))]
abbrev QM : Type := Nat → Nat → Rat
def sk (i a : Nat) : Nat := if a < i then a else a + 1
def sg (i : Nat) : Rat := if i % 2 = 0 then 1 else -1
theorem sg_s (i : Nat) : sg (i + 1) = - sg i := by
  unfold sg
  by_cases q : i % 2 = 0
  · rw [if_pos q, if_neg (by omega)]
  · rw [if_neg q, if_pos (by omega)]; grind
def qmin (N : QM) (i : Nat) : QM := fun a b => N (sk i a) (b + 1)
def qd : Nat → QM → Rat
  | 0, _ => 1
  | n + 1, N => qs (n + 1) (fun i => sg i * N i 0 * qd n (qmin N i))
theorem qd_congr : ∀ {n : Nat} {N N' : QM}, (∀ a b, a < n → b < n → N a b = N' a b) → qd n N = qd n N'
  | 0, _, _, _ => rfl
  | n + 1, N, N', h => by
    simp only [qd]
    apply qs_congr
    intro i hi
    rw [h i 0 hi (by omega), qd_congr (n := n) (N := qmin N i) (N' := qmin N' i) (fun a b ha hb => by unfold qmin sk; apply h; split <;> omega; omega)]
theorem qd_lin : ∀ {n r : Nat} {N A B : QM} {x : Rat}, r < n → (∀ a b, a ≠ r → N a b = A a b ∧ N a b = B a b) → (∀ b, N r b = x * A r b + B r b) → qd n N = x * qd n A + qd n B
  | 0, _, _, _, _, _, h, _, _ => absurd h (Nat.not_lt_zero _)
  | n + 1, r, N, A, B, x, hr, h1, h2 => by
    simp only [qd]
    rw [← qs_lin]
    apply qs_congr
    intro i hi
    by_cases e : i = r
    · subst e
      have ea : qd n (qmin N i) = qd n (qmin A i) := qd_congr (fun a b _ _ => (h1 _ _ (by unfold sk; split <;> omega)).1)
      have eb : qd n (qmin N i) = qd n (qmin B i) := qd_congr (fun a b _ _ => (h1 _ _ (by unfold sk; split <;> omega)).2)
      rw [h2 0, ← ea, ← eb]; grind
    · have := qd_lin (n := n) (r := if r < i then r else r - 1) (N := qmin N i) (A := qmin A i) (B := qmin B i) (x := x) (by split <;> omega)
        (fun a b ha => h1 _ _ (by unfold sk; split at ha <;> split <;> omega))
        (fun b => by
          have : sk i (if r < i then r else r - 1) = r := by unfold sk; split <;> (try split) <;> omega
          unfold qmin; rw [this]; exact h2 _)
      have e0 := h1 i 0 e
      rw [this, ← e0.1, ← e0.2]; grind
theorem qd_adj : ∀ {n r : Nat} {N : QM}, r + 1 < n → (∀ b, N r b = N (r + 1) b) → qd n N = 0
  | 0, _, _, h, _ => absurd h (Nat.not_lt_zero _)
  | n + 1, r, N, hr, h => by
    simp only [qd]
    rw [qs_two (a := r) (b := r + 1) (by omega) hr (by omega)]
    · have : qd n (qmin N r) = qd n (qmin N (r + 1)) := qd_congr (fun a b _ _ => by
        unfold qmin sk
        by_cases e : a = r
        · subst e; rw [if_neg (by omega), if_pos (by omega)]; exact (h _).symm
        · by_cases e2 : a < r
          · rw [if_pos e2, if_pos (by omega)]
          · rw [if_neg e2, if_neg (by omega)])
      rw [this, sg_s, h 0]; grind
    · intro i hi h1 h2
      rw [qd_adj (n := n) (r := if r < i then r else r - 1) (N := qmin N i) (by split <;> omega) (fun b => by
        unfold qmin
        have e1 : sk i (if r < i then r else r - 1) = r := by unfold sk; split <;> (try split) <;> omega
        have e2 : sk i ((if r < i then r else r - 1) + 1) = r + 1 := by unfold sk; split <;> (try split) <;> omega
        rw [e1, e2]; exact h _)]
      grind
/-- row r replaced -/
def rw1 (N : QM) (r : Nat) (f : Nat → Rat) : QM := fun a b => if a = r then f b else N a b
theorem rw1_s {N : QM} {r b : Nat} {f : Nat → Rat} : rw1 N r f r b = f b := if_pos rfl
theorem rw1_n {N : QM} {r a b : Nat} {f : Nat → Rat} (h : a ≠ r) : rw1 N r f a b = N a b := if_neg h
theorem qd_row {n r : Nat} (hr : r < n) (N : QM) (f g : Nat → Rat) (x : Rat) : qd n (rw1 N r (fun b => x * f b + g b)) = x * qd n (rw1 N r f) + qd n (rw1 N r g) :=
  qd_lin hr (fun a b h => ⟨by rw [rw1_n h, rw1_n h], by rw [rw1_n h, rw1_n h]⟩) (fun b => by rw [rw1_s, rw1_s, rw1_s])
theorem qd_swap {n r : Nat} (hr : r + 1 < n) (N : QM) (f g : Nat → Rat) : qd n (rw1 (rw1 N r f) (r + 1) g) = - qd n (rw1 (rw1 N r g) (r + 1) f) := by
  have adj : ∀ h : Nat → Rat, qd n (rw1 (rw1 N r h) (r + 1) h) = 0 := fun h => qd_adj hr (fun b => by rw [rw1_n (by omega), rw1_s, rw1_s])
  have comm : ∀ f g : Nat → Rat, qd n (rw1 (rw1 N r f) (r + 1) g) = qd n (rw1 (rw1 N (r + 1) g) r f) := fun f g => qd_congr (fun a b _ _ => by
    unfold rw1; by_cases e : a = r
    · subst e; rw [if_neg (by omega), if_pos rfl, if_pos rfl]
    · rw [if_neg e, if_neg e])
  have h0 := adj (fun b => 1 * f b + g b)
  rw [qd_row hr, comm, comm, qd_row (by omega), qd_row (by omega), ← comm, ← comm, ← comm, ← comm, adj f, adj g] at h0
  grind
theorem qd_eq : ∀ (t : Nat) {n r : Nat} {N : QM}, r + t + 1 < n → (∀ b, N r b = N (r + t + 1) b) → qd n N = 0
  | 0, n, r, N, hr, h => qd_adj hr h
  | t + 1, n, r, N, hr, h => by
    have e : qd n N = qd n (rw1 (rw1 N (r + t + 1) (N (r + t + 1))) (r + t + 1 + 1) (N (r + t + 1 + 1))) := qd_congr (fun a b _ _ => by
      unfold rw1; split <;> (try split) <;> simp_all)
    rw [e, qd_swap (by omega), qd_eq t (r := r) (by omega)]
    · grind
    · intro b
      rw [rw1_n (by omega), rw1_n (by omega), rw1_n (by omega), rw1_s]; exact h b
/-- rows 1 .. t with multiples of row 0 -/
def rwT (N : QM) (c : Nat → Rat) (t : Nat) : QM := fun a b => if 1 ≤ a ∧ a < t then N a b - c a * N 0 b else N a b
theorem qd_rwT {n : Nat} {N : QM} {c : Nat → Rat} : ∀ t, t ≤ n → qd n (rwT N c t) = qd n N
  | 0, _ => qd_congr (fun a b _ _ => by unfold rwT; rw [if_neg (by omega)])
  | t + 1, ht => by
    rcases Nat.eq_zero_or_pos t with q | q
    · subst q; exact qd_congr (fun a b _ _ => by unfold rwT; rw [if_neg (by omega)])
    · rw [qd_lin (n := n) (r := t) (N := rwT N c (t + 1)) (A := rw1 (rwT N c t) t (N 0)) (B := rwT N c t) (x := - c t) (by omega), qd_rwT t (by omega)]
      · obtain ⟨u, rfl⟩ : ∃ u, t = 0 + u + 1 := ⟨t - 1, by omega⟩
        rw [qd_eq u (r := 0) (by omega)]
        · grind
        · intro b; rw [rw1_n (by omega), rw1_s]; unfold rwT; rw [if_neg (by omega)]
      · intro a b ha
        rw [rw1_n ha]
        have : rwT N c (t + 1) a b = rwT N c t a b := by
          unfold rwT; by_cases e : 1 ≤ a ∧ a < t
          · rw [if_pos e, if_pos (by omega)]
          · rw [if_neg e, if_neg (by omega)]
        exact ⟨this, this⟩
      · intro b
        rw [rw1_s]; unfold rwT; rw [if_pos (by omega), if_neg (by omega)]; grind
/-- one step of the elimination, at the first place -/
theorem qd_schur {n : Nat} {N : QM} (h : N 0 0 ≠ 0) : qd (n + 1) N = N 0 0 * qd n (fun a b => N (a + 1) (b + 1) - N (a + 1) 0 * N 0 (b + 1) / N 0 0) := by
  rw [← qd_rwT (n := n + 1) (N := N) (c := fun a => N a 0 / N 0 0) (n + 1) (Nat.le_refl _)]
  simp only [qd]
  rw [qs_one (a := 0) (by omega)]
  · have e0 : rwT N (fun a => N a 0 / N 0 0) (n + 1) 0 0 = N 0 0 := by unfold rwT; rw [if_neg (by omega)]
    rw [e0, show sg 0 = 1 from rfl, qd_congr (N' := fun a b => N (a + 1) (b + 1) - N (a + 1) 0 * N 0 (b + 1) / N 0 0)]
    · grind
    · intro a b ha hb
      have e1 : sk 0 a = a + 1 := by unfold sk; rw [if_neg (by omega)]
      unfold qmin rwT
      rw [e1, if_pos (by omega)]; grind
  · intro i hi h0
    have : rwT N (fun a => N a 0 / N 0 0) (n + 1) i 0 = 0 := by unfold rwT; rw [if_pos (by omega)]; grind
    rw [this]; grind
def qI (x : Rat) : Prop := ∃ z : Int, x = z
theorem qI.add {x y : Rat} (h : qI x) (k : qI y) : qI (x + y) := by obtain ⟨a, rfl⟩ := h; obtain ⟨b, rfl⟩ := k; exact ⟨a + b, by rw [Rat.intCast_add]⟩
theorem qI.mul {x y : Rat} (h : qI x) (k : qI y) : qI (x * y) := by obtain ⟨a, rfl⟩ := h; obtain ⟨b, rfl⟩ := k; exact ⟨a * b, by rw [Rat.intCast_mul]⟩
theorem sg_I (i : Nat) : qI (sg i) := by unfold sg; split; exact ⟨1, rfl⟩; exact ⟨-1, rfl⟩
theorem qs_I {n : Nat} {f : Nat → Rat} (h : ∀ i, i < n → qI (f i)) : qI (qs n f) := by
  induction n with
  | zero => exact ⟨0, rfl⟩
  | succ n ih => exact (ih (fun i hi => h i (by omega))).add (h n (by omega))
theorem qd_I : ∀ {n : Nat} {N : QM}, (∀ a b, qI (N a b)) → qI (qd n N)
  | 0, _, _ => ⟨1, rfl⟩
  | n + 1, N, h => qs_I (fun i _ => ((sg_I i).mul (h i 0)).mul (qd_I (fun a b => h _ _)))
