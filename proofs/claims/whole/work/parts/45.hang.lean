-- what hangs together
def zR (nv : Nat) (S : Nat → Bool) (f : Nat → Int32) : Prop := ∀ k, k < nv → f k = (if S k = true then 1 else 0)
def sUp (S : Nat → Bool) (a b : Nat) : Nat → Bool := fun k => S k || (k == a || k == b)
theorem sUp_a (S : Nat → Bool) (a b : Nat) : sUp S a b a = true := by unfold sUp; simp
theorem sUp_b (S : Nat → Bool) (a b : Nat) : sUp S a b b = true := by unfold sUp; simp
theorem sUp_o {S : Nat → Bool} {a b k : Nat} (h1 : k ≠ a) (h2 : k ≠ b) : sUp S a b k = S k := by unfold sUp; simp [h1, h2]
theorem sUp_ct {S : Nat → Bool} {nv a b : Nat} (ha : a < nv) (hb : b < nv) (h : S a ≠ S b) : ct0 nv S < ct0 nv (sUp S a b) := by
  have key : ∀ c d, c < nv → S c = false → S d = true → (∀ k, k < nv → k ≠ c → sUp S a b k = S k) → sUp S a b c = true → ct0 nv S < ct0 nv (sUp S a b) := by
    intro c d hc h1 h2 h3 h4
    have := ct0_drop (f := sUp S a b) (g := S) hc h4 h1 (fun i hi hne => (h3 i hi hne).symm)
    omega
  cases hsa : S a with
  | true =>
    have hsb : S b = false := by cases hsb : S b with | false => rfl | true => rw [hsa, hsb] at h; exact absurd rfl h
    refine key b a hb hsb hsa (fun k hk hne => ?_) (sUp_b S a b)
    by_cases e : k = a
    · rw [e, sUp_a, hsa]
    · exact sUp_o e hne
  | false =>
    have hsb : S b = true := by cases hsb : S b with | true => rfl | false => rw [hsa, hsb] at h; exact absurd rfl h
    refine key a b ha hsa hsb (fun k hk hne => ?_) (sUp_a S a b)
    by_cases e : k = b
    · rw [e, sUp_b, hsb]
    · exact sUp_o hne e
theorem zR_up {nv a b : Nat} {S : Nat → Bool} {f g : Nat → Int32} (h : zR nv S f) (hg : g = upd (upd f a 1) b 1) : zR nv (sUp S a b) g := by
  intro k hk
  rw [hg]
  by_cases e2 : k = b
  · rw [e2, pk_us, sUp_b]; rfl
  · rw [pk_un e2]
    by_cases e1 : k = a
    · rw [e1, pk_us, sUp_a]; rfl
    · rw [pk_un e1, sUp_o e1 e2]; exact h k hk
/-- a set that no edge leaves has all that hangs together with one of it -/
theorem hang_all {fr to : Nat → Nat} {N m u v : Nat} (hm : m ≤ 64) (hN : ∀ e, e < m → fr e < N ∧ to e < N) {S : Nat → Bool} (hu : u < N) (hv : v < N) (hS : S u = true) (hc : ∀ e, e < m → S (fr e) = S (to e)) (h : (jRun fr to (fl m) m).1 u = (jRun fr to (fl m) m).1 v) : S v = true := by
  obtain ⟨h1, h2, h3, h4, h5, h6⟩ := jA hm hN
  have hb : ∀ e, ((jRun fr to (fl m) m).2.1 u ^^^ (jRun fr to (fl m) m).2.1 v).testBit e = true → e < m := by
    intro e he
    rw [Nat.testBit_xor] at he
    cases hh : ((jRun fr to (fl m) m).2.1 u).testBit e with
    | true => exact (h3 u hu e hh).1
    | false => rw [hh, Bool.false_xor] at he; exact (h3 v hv e he).1
  have hx := cr_ends (N := N) (fun e he => hN e (hb e he)) hu hv (fun x => by
    rw [bd_xor, h2 u hu, h2 v hv, h]
    cases (u == x) <;> cases (v == x) <;> cases ((jRun fr to (fl m) m).1 v == x) <;> rfl) S
  have h0 : cr fr to ((jRun fr to (fl m) m).2.1 u ^^^ (jRun fr to (fl m) m).2.1 v) S = false := by
    unfold cr
    refine xs_false _ (fun e _ => ?_)
    cases hh : ((jRun fr to (fl m) m).2.1 u ^^^ (jRun fr to (fl m) m).2.1 v).testBit e with
    | false => rfl
    | true => rw [hc e (hb e hh)]; cases S (to e) <;> rfl
  rw [h0, hS] at hx
  cases hsv : S v with
  | true => rfl
  | false => rw [hsv] at hx; cases hx
theorem ends_same {fr to : Nat → Nat} {N m e : Nat} (hm : m ≤ 64) (hN : ∀ e, e < m → fr e < N ∧ to e < N) (he : e < m) : (jRun fr to (fl m) m).1 (fr e) = (jRun fr to (fl m) m).1 (to e) :=
  (jA hm hN).2.2.2.1 e he (by rw [fl_bit]; simp [he])
theorem zz_eq {x y : Bool} (h : (if x = true then (1 : Int32) else 0) = (if y = true then 1 else 0)) : x = y := by
  cases x <;> cases y <;> first | rfl | exact absurd h (by decide)
/-- there is an earlier group of the same piece -/
def fsP (fr to : Nat → Nat) (ne : Nat) (q : JS) (v i : Nat) : Prop := ∃ u, u < i ∧ q.1 u = u ∧ (jRun fr to (fl ne) ne).1 u = (jRun fr to (fl ne) ne).1 v
theorem fsP_0 {fr to : Nat → Nat} {ne v : Nat} {q : JS} : ¬ fsP fr to ne q v 0 := fun ⟨_, h, _⟩ => absurd h (Nat.not_lt_zero _)
theorem fsP_s {fr to : Nat → Nat} {ne v i : Nat} {q : JS} (h : fsP fr to ne q v i) : fsP fr to ne q v (i + 1) := by obtain ⟨u, a, b⟩ := h; exact ⟨u, by omega, b⟩
theorem fsP_i {fr to : Nat → Nat} {ne v i : Nat} {q : JS} (h1 : q.1 i = i) (h2 : (jRun fr to (fl ne) ne).1 i = (jRun fr to (fl ne) ne).1 v) : fsP fr to ne q v (i + 1) := ⟨i, Nat.lt_succ_self i, h1, h2⟩
theorem fsP_n {fr to : Nat → Nat} {ne v i : Nat} {q : JS} (h : ¬ fsP fr to ne q v i) (h2 : ¬ (q.1 i = i ∧ (jRun fr to (fl ne) ne).1 i = (jRun fr to (fl ne) ne).1 v)) : ¬ fsP fr to ne q v (i + 1) := by
  rintro ⟨u, a, b, d⟩
  by_cases e : u = i
  · subst e; exact h2 ⟨b, d⟩
  · exact h ⟨u, by omega, b, d⟩
