-- simple cycles by their last edge: paths of earlier edges between its ends
theorem dg_congr {fr to : Nat → Nat} {x y v : Nat} : ∀ m, (∀ e, e < m → x.testBit e = y.testBit e) → dg fr to x m v = dg fr to y m v
  | 0, _ => rfl
  | m + 1, h => by simp only [dg]; rw [dg_congr m (fun e he => h e (by omega)), h m (by omega)]
theorem dg_flip {fr to : Nat → Nat} {z v e : Nat} (hb : z.testBit e = true) : ∀ m, e < m → dg fr to z m v = dg fr to (z ^^^ 2 ^ e) m v + ((if fr e = v then 1 else 0) + (if to e = v then 1 else 0))
  | 0, h => absurd h (Nat.not_lt_zero _)
  | m + 1, h => by
    simp only [dg]
    have bit : (z ^^^ 2 ^ e).testBit m = (z.testBit m ^^ decide (e = m)) := by rw [Nat.testBit_xor, Nat.testBit_two_pow]
    by_cases he : e = m
    · subst he
      rw [bit, hb, dg_congr (x := z ^^^ 2 ^ e) (y := z) e (fun i hi => by rw [Nat.testBit_xor, Nat.testBit_two_pow, decide_eq_false (by omega)]; simp)]
      simp
    · rw [bit, decide_eq_false he, dg_flip hb m (by omega), Bool.xor_false]; omega
theorem dg_none {fr to : Nat → Nat} {z v : Nat} : ∀ m, (∀ e, e < m → z.testBit e = true → fr e ≠ v ∧ to e ≠ v) → dg fr to z m v = 0
  | 0, _ => rfl
  | m + 1, h => by
    simp only [dg]
    rw [dg_none m (fun e he => h e (by omega))]
    split
    · rename_i hb; have := h m (by omega) hb; rw [if_neg this.1, if_neg this.2]
    · rfl
theorem dg_ex {fr to : Nat → Nat} {z v m : Nat} (h : 1 ≤ dg fr to z m v) : ∃ e, e < m ∧ z.testBit e = true ∧ (fr e = v ∨ to e = v) := by
  refine Classical.byContradiction (fun hn => ?_)
  rw [dg_none m (fun e he hb => ⟨fun q => hn ⟨e, he, hb, .inl q⟩, fun q => hn ⟨e, he, hb, .inr q⟩⟩)] at h
  omega
/-- the other end -/
def oth (fr to : Nat → Nat) (e a : Nat) : Nat := if fr e = a then to e else fr e
theorem oth_ends {fr to : Nat → Nat} {e a : Nat} (h : fr e = a ∨ to e = a) : (fr e = a ∧ to e = oth fr to e a) ∨ (fr e = oth fr to e a ∧ to e = a) := by
  unfold oth; by_cases q : fr e = a
  · rw [if_pos q]; exact .inl ⟨q, rfl⟩
  · rw [if_neg q]; exact .inr ⟨rfl, h.resolve_left q⟩
def ex : Nat → (Nat → Bool) → Bool
  | 0, _ => false
  | n + 1, f => ex n f || f n
theorem ex_t {f : Nat → Bool} : ∀ {n}, ex n f = true ↔ ∃ i, i < n ∧ f i = true
  | 0 => Iff.intro (fun h => by cases h) (fun ⟨_, h, _⟩ => absurd h (Nat.not_lt_zero _))
  | n + 1 => by
    simp only [ex]
    rw [Bool.or_eq_true, ex_t]
    constructor
    · rintro (⟨i, h1, h2⟩ | h)
      · exact ⟨i, by omega, h2⟩
      · exact ⟨n, by omega, h⟩
    · rintro ⟨i, h1, h2⟩
      by_cases q : i = n
      · exact .inr (by rw [← q]; exact h2)
      · exact .inl ⟨i, by omega, h2⟩
theorem ct0_or {n : Nat} {f g : Nat → Bool} (h : ∀ i, i < n → f i = true → g i = true → False) : ct0 n (fun i => f i || g i) = ct0 n f + ct0 n g := by
  induction n with
  | zero => rfl
  | succ n ih =>
    have := ih (fun i hi => h i (by omega))
    have hn := h n (by omega)
    simp only [ct0]
    rw [this]
    by_cases hf : f n = true
    · have hg : ¬ g n = true := fun hg => hn hf hg
      simp [hf, hg]; omega
    · simp [hf]; omega
theorem ct0_ex {n : Nat} {F : Nat → Nat → Bool} : ∀ {k}, (∀ z, z < n → ∀ i j, i < k → j < k → F i z = true → F j z = true → i = j) → ct0 n (fun z => ex k (fun i => F i z)) = sN k (fun i => ct0 n (F i))
  | 0, _ => ct0_zero (fun _ _ => rfl)
  | k + 1, h => by
    simp only [ex, sN]
    rw [ct0_or (fun z hz h1 h2 => by
      obtain ⟨i, a, b⟩ := ex_t.mp h1
      have := h z hz i k (by omega) (by omega) b h2
      omega), ct0_ex (fun z hz i j hi hj => h z hz i j (by omega) (by omega))]
theorem ct0_at {n a : Nat} (h : a < n) : ct0 n (fun z => z == a) = 1 := by
  have := ct0_drop (n := n) (a := a) (f := fun z => z == a) (g := fun _ => false) h (by simp) rfl (fun i _ hne => by simp [hne])
  rw [ct0_zero (fun _ _ => rfl)] at this; omega
/-- sets that are paths: k edges, the end, fuel, where it begins, what is seen, the set -/
def psB (fr to : Nat → Nat) (k en : Nat) : Nat → Nat → Nat → Nat → Bool
  | 0, a, _, z => a == en && z == 0
  | f + 1, a, sn, z => if a = en then z == 0 else ex k (fun e => (fr e == a || to e == a) && !sn.testBit (oth fr to e a) && z.testBit e && psB fr to k en f (oth fr to e a) (sn ||| 2 ^ oth fr to e a) (z ^^^ 2 ^ e))
theorem psB_ex {fr to : Nat → Nat} {k en f a sn z : Nat} (ha : a ≠ en) : psB fr to k en (f + 1) a sn z = true ↔ ∃ e, e < k ∧ (fr e = a ∨ to e = a) ∧ sn.testBit (oth fr to e a) = false ∧ z.testBit e = true ∧ psB fr to k en f (oth fr to e a) (sn ||| 2 ^ oth fr to e a) (z ^^^ 2 ^ e) = true := by
  simp only [psB]
  rw [if_neg ha, ex_t]
  simp [and_assoc]
theorem psB_end {fr to : Nat → Nat} {k en f sn z : Nat} : psB fr to k en f en sn z = (z == 0) := by
  cases f with
  | zero => simp [psB]
  | succ f => simp [psB]
theorem sn_bit {sn v s : Nat} : (sn ||| 2 ^ v).testBit s = true ↔ sn.testBit s = true ∨ s = v := by
  rw [Nat.testBit_or, Nat.testBit_two_pow]; simp; exact ⟨fun h => h.imp id Eq.symm, fun h => h.imp id Eq.symm⟩
theorem flip_bit {z e i : Nat} (h : i ≠ e) : (z ^^^ 2 ^ e).testBit i = z.testBit i := by
  rw [Nat.testBit_xor, Nat.testBit_two_pow, decide_eq_false (fun q => h q.symm)]; simp
theorem flip_self {z e : Nat} : (z ^^^ 2 ^ e).testBit e = !z.testBit e := by
  rw [Nat.testBit_xor, Nat.testBit_two_pow]; simp
theorem ps_avoid {fr to : Nat → Nat} {k en : Nat} : ∀ f a sn z, psB fr to k en f a sn z = true → sn.testBit a = true → ∀ e, z.testBit e = true → e < k ∧ ∀ s, sn.testBit s = true → s ≠ a → fr e ≠ s ∧ to e ≠ s
  | 0, a, sn, z, h, _, e, he => by
    simp [psB] at h; rw [h.2, Nat.zero_testBit] at he; cases he
  | f + 1, a, sn, z, h, hs, e, he => by
    by_cases ha : a = en
    · subst ha
      rw [psB_end] at h
      have : z = 0 := by simpa using h
      rw [this, Nat.zero_testBit] at he; cases he
    · obtain ⟨e0, h1, h2, h3, h4, h5⟩ := (psB_ex ha).mp h
      have hnv : ∀ s, sn.testBit s = true → s ≠ oth fr to e0 a := fun s q e => by rw [e, h3] at q; cases q
      by_cases q : e = e0
      · subst q
        refine ⟨h1, fun s s1 s2 => ?_⟩
        have := hnv s s1
        rcases oth_ends h2 with ⟨q1, q2⟩ | ⟨q1, q2⟩
        · exact ⟨by omega, by omega⟩
        · exact ⟨by omega, by omega⟩
      · obtain ⟨i1, i2⟩ := ps_avoid f _ _ _ h5 (sn_bit.mpr (.inr rfl)) e (by rw [flip_bit q]; exact he)
        exact ⟨i1, fun s s1 s2 => i2 s (sn_bit.mpr (.inl s1)) (hnv s s1)⟩
/-- behind the first edge the beginning is not touched -/
theorem ps_tail {fr to : Nat → Nat} {k en f a sn z e0 : Nat} (hs : sn.testBit a = true) (h3 : sn.testBit (oth fr to e0 a) = false) (h5 : psB fr to k en f (oth fr to e0 a) (sn ||| 2 ^ oth fr to e0 a) z = true) : ∀ e, z.testBit e = true → fr e ≠ a ∧ to e ≠ a := fun e he =>
  (ps_avoid f _ _ _ h5 (sn_bit.mpr (.inr rfl)) e he).2 a (sn_bit.mpr (.inl hs)) (fun q => by rw [← q, hs] at h3; cases h3)
def jns (fr to : Nat → Nat) (a v e : Nat) : Bool := (fr e == a && to e == v) || (fr e == v && to e == a)
/-- how many of the first k edges join two vertices -/
def bwN (fr to : Nat → Nat) (k a v : Nat) : Nat := ct0 k (jns fr to a v)
def pth (bw : Nat → Nat → Nat) (en : Nat) : Nat → Nat → Nat → Nat
  | 0, a, _ => if a = en then 1 else 0
  | f + 1, a, sn => if a = en then 1 else sN 16 (fun v => if bw a v ≠ 0 ∧ sn.testBit v = false then bw a v * pth bw en f v (sn ||| 2 ^ v) else 0)
theorem sN_swap {m : Nat} {F : Nat → Nat → Nat} : ∀ n, sN n (fun i => sN m (fun j => F i j)) = sN m (fun j => sN n (fun i => F i j))
  | 0 => by
    have : ∀ m, sN m (fun _ => 0) = 0 := by intro m; induction m with
      | zero => rfl
      | succ m ih => simp only [sN]; rw [ih]
    exact (this m).symm
  | n + 1 => by simp only [sN]; rw [sN_swap n, ← sN_add]
theorem sN_zero {n : Nat} {f : Nat → Nat} (h : ∀ i, i < n → f i = 0) : sN n f = 0 := by
  induction n with
  | zero => rfl
  | succ n ih => simp only [sN]; rw [ih (fun i hi => h i (by omega)), h n (by omega)]
theorem ct0_mul {f : Nat → Bool} {x : Nat} : ∀ k, ct0 k f * x = sN k (fun e => if f e = true then x else 0)
  | 0 => by simp [ct0, sN]
  | k + 1 => by
    simp only [ct0, sN]
    rw [← ct0_mul k, Nat.add_mul]; split <;> omega
theorem pth_sum {fr to : Nat → Nat} {k a sn : Nat} {X : Nat → Nat} (hN : ∀ e, e < k → fr e < 16 ∧ to e < 16) (hs : sn.testBit a = true) :
    sN 16 (fun v => if bwN fr to k a v ≠ 0 ∧ sn.testBit v = false then bwN fr to k a v * X v else 0) = sN k (fun e => if (fr e = a ∨ to e = a) ∧ sn.testBit (oth fr to e a) = false then X (oth fr to e a) else 0) := by
  rw [sN_congr (g := fun v => sN k (fun e => if jns fr to a v e = true ∧ sn.testBit v = false then X v else 0)) (fun v _ => ?_), sN_swap]
  · apply sN_congr
    intro e he
    by_cases c : (fr e = a ∨ to e = a) ∧ sn.testBit (oth fr to e a) = false
    · have ho : oth fr to e a < 16 := by have := hN e he; unfold oth; split <;> omega
      rw [if_pos c, sN_out ho, if_pos ⟨by
        unfold jns
        rcases oth_ends c.1 with ⟨q1, q2⟩ | ⟨q1, q2⟩
        · simp [q1, ← q2]
        · simp [q2, ← q1], c.2⟩, sN_zero (fun v _ => ?_), Nat.add_zero]
      by_cases q : v = oth fr to e a
      · rw [if_pos q]
      · rw [if_neg q, if_neg]
        rintro ⟨j1, j2⟩
        have : (fr e = a ∧ to e = v) ∨ (fr e = v ∧ to e = a) := by unfold jns at j1; simpa using j1
        apply q
        unfold oth
        rcases this with ⟨q1, q2⟩ | ⟨q1, q2⟩
        · rw [if_pos q1, q2]
        · rw [if_neg (fun q3 => by rw [← q1, q3, hs] at j2; cases j2), q1]
    · rw [if_neg c]
      apply sN_zero
      intro v _
      rw [if_neg]
      rintro ⟨j1, j2⟩
      have : (fr e = a ∧ to e = v) ∨ (fr e = v ∧ to e = a) := by unfold jns at j1; simpa using j1
      apply c
      unfold oth
      rcases this with ⟨q1, q2⟩ | ⟨q1, q2⟩
      · exact ⟨.inl q1, by rw [if_pos q1, q2]; exact j2⟩
      · exact ⟨.inr q2, by rw [if_neg (fun q3 => by rw [← q1, q3, hs] at j2; cases j2), q1]; exact j2⟩
  · by_cases c : sn.testBit v = false
    · by_cases b : bwN fr to k a v ≠ 0
      · rw [if_pos ⟨b, c⟩]; unfold bwN; rw [ct0_mul]; exact sN_congr (fun e _ => by simp [c])
      · have b : bwN fr to k a v = 0 := by omega
        rw [if_neg (fun h => h.1 b)]
        have := ct0_mul (f := jns fr to a v) (x := X v) k
        rw [show ct0 k (jns fr to a v) = 0 from b, Nat.zero_mul] at this
        exact this.trans (sN_congr (fun e _ => by simp [c]))
    · rw [if_neg (fun h => c h.2), sN_zero (fun e _ => if_neg (fun h => c h.2))]
theorem ps_count {fr to : Nat → Nat} {k en : Nat} (hN : ∀ e, e < k → fr e < 16 ∧ to e < 16) : ∀ f a sn, sn.testBit a = true → ct0 (2 ^ k) (psB fr to k en f a sn) = pth (bwN fr to k) en f a sn
  | 0, a, sn, hs => by
    by_cases h : a = en
    · subst h
      rw [ct0_congr (g := fun z => z == 0) (fun z _ => psB_end), ct0_at (Nat.two_pow_pos k)]; simp [pth]
    · rw [ct0_zero (fun z _ => by simp [psB, h])]; simp [pth, h]
  | f + 1, a, sn, hs => by
    by_cases h : a = en
    · subst h
      rw [ct0_congr (g := fun z => z == 0) (fun z _ => psB_end), ct0_at (Nat.two_pow_pos k)]; simp [pth]
    · simp only [pth]
      rw [if_neg h, pth_sum hN hs]
      have e1 : ct0 (2 ^ k) (psB fr to k en (f + 1) a sn) = ct0 (2 ^ k) (fun z => ex k (fun e => (fr e == a || to e == a) && !sn.testBit (oth fr to e a) && z.testBit e && psB fr to k en f (oth fr to e a) (sn ||| 2 ^ oth fr to e a) (z ^^^ 2 ^ e))) := ct0_congr (fun z _ => by simp only [psB]; rw [if_neg h])
      rw [e1, ct0_ex (F := fun e z => (fr e == a || to e == a) && !sn.testBit (oth fr to e a) && z.testBit e && psB fr to k en f (oth fr to e a) (sn ||| 2 ^ oth fr to e a) (z ^^^ 2 ^ e))]
      · apply sN_congr
        intro e he
        by_cases c : (fr e = a ∨ to e = a) ∧ sn.testBit (oth fr to e a) = false
        · rw [if_pos c, ← ps_count hN f _ _ (sn_bit.mpr (.inr rfl))]
          have pw : ∀ {z}, z < 2 ^ k → z ^^^ 2 ^ e < 2 ^ k := fun hz => Nat.xor_lt_two_pow hz (Nat.pow_lt_pow_right (by omega) he)
          have cc : (fr e == a || to e == a) = true := by simpa using c.1
          refine ct0_bij (fun z => z ^^^ 2 ^ e) (fun z => z ^^^ 2 ^ e) (fun z hz hf => ⟨pw hz, ?_, xor_can z _⟩) (fun z hz hg => ⟨pw hz, ?_, xor_can z _⟩)
          · have hf : ((fr e == a || to e == a) && !sn.testBit (oth fr to e a) && z.testBit e && psB fr to k en f (oth fr to e a) (sn ||| 2 ^ oth fr to e a) (z ^^^ 2 ^ e)) = true := hf
            rw [Bool.and_eq_true] at hf; exact hf.2
          · have nb : z.testBit e = false := bool_f (fun hb => by
              have := ps_tail hs c.2 hg e hb
              exact c.1.elim this.1 this.2)
            show ((fr e == a || to e == a) && !sn.testBit (oth fr to e a) && (z ^^^ 2 ^ e).testBit e && psB fr to k en f (oth fr to e a) (sn ||| 2 ^ oth fr to e a) ((z ^^^ 2 ^ e) ^^^ 2 ^ e)) = true
            rw [cc, c.2, flip_self, nb, xor_can, hg]; rfl
        · rw [if_neg c]
          apply ct0_zero
          intro z _
          refine bool_f (fun hf => c ?_)
          simp only [Bool.and_eq_true, Bool.or_eq_true, beq_iff_eq, Bool.not_eq_true'] at hf
          exact ⟨hf.1.1.1, hf.1.1.2⟩
      · intro z _ i j hi hj f1 f2
        simp only [Bool.and_eq_true, Bool.or_eq_true, beq_iff_eq, Bool.not_eq_true'] at f1 f2
        refine Classical.byContradiction (fun hij => ?_)
        have := ps_tail hs f1.1.1.2 f1.2 j (by rw [flip_bit (fun q => hij q.symm)]; exact f2.1.2)
        exact f2.1.1.1.elim this.1 this.2
