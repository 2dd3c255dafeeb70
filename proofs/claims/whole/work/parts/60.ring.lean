-- ends counted and ends by parity; rings
theorem xs_trim {m n : Nat} (h : m ≤ n) {f : Nat → Bool} (hf : ∀ i, m ≤ i → i < n → f i = false) : xs n f = xs m f := by
  induction n with
  | zero => have : m = 0 := by omega
            subst this; rfl
  | succ n ih =>
    by_cases e : m = n + 1
    · rw [e]
    · simp only [xs]
      rw [ih (by omega) (fun i a b => hf i a (by omega)), hf n (by omega) (by omega)]; cases xs m f <;> rfl
theorem xs_dg {fr to : Nat → Nat} {z v : Nat} : ∀ k, xs k (fun e => z.testBit e && ((fr e == v) ^^ (to e == v))) = (dg fr to z k v % 2 == 1) := by
  intro k
  induction k with
  | zero => rfl
  | succ k ih =>
    simp only [xs, dg]
    rw [ih]
    by_cases hb : z.testBit k = true
    · rw [if_pos hb, hb]
      by_cases a : fr k = v <;> by_cases b : to k = v
      · rw [if_pos a, if_pos b, show (fr k == v) = true by simp [a], show (to k == v) = true by simp [b], show (dg fr to z k v + (1 + 1)) % 2 = dg fr to z k v % 2 by omega]
        generalize (dg fr to z k v % 2 == 1) = t; cases t <;> rfl
      · rw [if_pos a, if_neg b, show (fr k == v) = true by simp [a], show (to k == v) = false by simp [b]]
        rcases Nat.mod_two_eq_zero_or_one (dg fr to z k v) with q | q
        · rw [q, show (dg fr to z k v + (1 + 0)) % 2 = 1 by omega]; rfl
        · rw [q, show (dg fr to z k v + (1 + 0)) % 2 = 0 by omega]; rfl
      · rw [if_neg a, if_pos b, show (fr k == v) = false by simp [a], show (to k == v) = true by simp [b]]
        rcases Nat.mod_two_eq_zero_or_one (dg fr to z k v) with q | q
        · rw [q, show (dg fr to z k v + (0 + 1)) % 2 = 1 by omega]; rfl
        · rw [q, show (dg fr to z k v + (0 + 1)) % 2 = 0 by omega]; rfl
      · rw [if_neg a, if_neg b, show (fr k == v) = false by simp [a], show (to k == v) = false by simp [b], show (dg fr to z k v + (0 + 0)) % 2 = dg fr to z k v % 2 by omega]
        generalize (dg fr to z k v % 2 == 1) = t; cases t <;> rfl
    · rw [if_neg hb, bool_f hb, Nat.add_zero]
      generalize (dg fr to z k v % 2 == 1) = t; cases t <;> rfl
theorem bd_dg {fr to : Nat → Nat} {m z v : Nat} (hm : m ≤ 64) (hz : z < 2 ^ m) : bd fr to z v = (dg fr to z m v % 2 == 1) := by
  have h1 : bd fr to z v = xs m (fun e => z.testBit e && ((fr e == v) ^^ (to e == v))) := xs_trim hm (fun i hi _ => by
    rw [Nat.testBit_lt_two_pow (Nat.lt_of_lt_of_le hz (Nat.pow_le_pow_right (by omega) hi))]; rfl)
  rw [h1]
  exact xs_dg m
theorem evn_bd {fr to : Nat → Nat} {nv m z : Nat} (hm : m ≤ 64) (hN : ∀ e, e < m → fr e < nv ∧ to e < nv) (hz : z < 2 ^ m) : evn fr to nv m z ↔ ∀ x, bd fr to z x = false := by
  constructor
  · intro h x
    rw [bd_dg hm hz]
    rcases Nat.lt_or_ge x nv with q | q
    · rw [h x q]; rfl
    · have h0 : ∀ k, k ≤ m → dg fr to z k x = 0 := by
        intro k hk
        induction k with
        | zero => rfl
        | succ k ih =>
          simp only [dg]
          rw [ih (by omega)]
          have := hN k (by omega)
          rw [if_neg (show ¬ fr k = x by omega), if_neg (show ¬ to k = x by omega)]
          split <;> rfl
      rw [h0 m (Nat.le_refl m)]; rfl
  · intro h v hv
    have := h v
    rw [bd_dg hm hz] at this
    have : ¬ dg fr to z m v % 2 = 1 := by simpa using this
    omega
/-- sums over vertices -/
def sm : Nat → (Nat → Nat) → Nat
  | 0, _ => 0
  | n + 1, f => sm n f + f n
theorem sm_add (n : Nat) (f g : Nat → Nat) : sm n (fun i => f i + g i) = sm n f + sm n g := by
  induction n with
  | zero => rfl
  | succ n ih => simp only [sm]; rw [ih]; omega
theorem sm_le {n : Nat} {f g : Nat → Nat} (h : ∀ i, i < n → f i ≤ g i) : sm n f ≤ sm n g := by
  induction n with
  | zero => exact Nat.le_refl _
  | succ n ih => simp only [sm]; have := ih (fun i hi => h i (by omega)); have := h n (by omega); omega
theorem sm_zero (n : Nat) {f : Nat → Nat} (h : ∀ i, i < n → f i = 0) : sm n f = 0 := by
  induction n with
  | zero => rfl
  | succ n ih => simp only [sm]; rw [ih (fun i hi => h i (by omega)), h n (by omega)]
theorem sm_one {n a : Nat} (ha : a < n) (x : Nat) : sm n (fun v => if a = v then x else 0) = x := by
  induction n with
  | zero => omega
  | succ n ih =>
    simp only [sm]
    by_cases e : a = n
    · subst e
      rw [if_pos rfl, sm_zero _ (fun i hi => if_neg (by omega))]; omega
    · rw [if_neg e, ih (by omega)]; exact Nat.add_zero x
theorem sm_dg {fr to : Nat → Nat} {nv z : Nat} : ∀ m, (∀ e, e < m → fr e < nv ∧ to e < nv) → sm nv (fun v => dg fr to z m v) = 2 * sz z m
  | 0, _ => sm_zero _ (fun _ _ => rfl)
  | m + 1, h => by
    have ih := sm_dg (fr := fr) (to := to) (nv := nv) (z := z) m (fun e he => h e (by omega))
    have hm := h m (by omega)
    show sm nv (fun v => dg fr to z m v + (if z.testBit m then (if fr m = v then 1 else 0) + (if to m = v then 1 else 0) else 0)) = 2 * (sz z m + (if z.testBit m then 1 else 0))
    rw [sm_add, ih]
    cases z.testBit m with
    | false => rw [sm_zero _ (fun _ _ => by simp)]; simp
    | true =>
      have : sm nv (fun v => (if fr m = v then 1 else 0) + (if to m = v then 1 else 0)) = 2 := by rw [sm_add, sm_one hm.1, sm_one hm.2]
      simp only [if_pos]; omega
theorem sm_ct (n : Nat) (f : Nat → Bool) : sm n (fun v => if f v then 2 else 0) = 2 * ct0 n f := by
  induction n with
  | zero => rfl
  | succ n ih => simp only [sm, ct0]; rw [ih]; split <;> omega
theorem dg_pos {fr to : Nat → Nat} {z : Nat} : ∀ {m e v : Nat}, e < m → z.testBit e = true → (fr e = v ∨ to e = v) → 1 ≤ dg fr to z m v
  | 0, e, v, h, _, _ => absurd h (Nat.not_lt_zero _)
  | m + 1, e, v, h, hb, hv => by
    simp only [dg]
    by_cases em : e = m
    · subst em
      rw [if_pos hb]
      rcases hv with q | q <;> simp [q] <;> omega
    · have := dg_pos (fr := fr) (to := to) (m := m) (by omega) hb hv; omega
theorem ct_not (n : Nat) (f : Nat → Bool) : ct0 n f + ct0 n (fun v => !f v) = n := by
  induction n with
  | zero => rfl
  | succ n ih =>
    simp only [ct0]
    by_cases h : f n = true
    · simp [h]; omega
    · simp [h]; omega
theorem ct_mono {n : Nat} {f g : Nat → Bool} (h : ∀ i, i < n → f i = true → g i = true) : ct0 n f ≤ ct0 n g := by
  induction n with
  | zero => exact Nat.le_refl _
  | succ n ih =>
    have := ih (fun i hi => h i (by omega))
    simp only [ct0]
    cases hf : f n with
    | false => simp; omega
    | true => rw [h n (by omega) hf]; simp; omega
theorem ct_more {n a : Nat} {f g : Nat → Bool} (h : ∀ i, i < n → f i = true → g i = true) (ha : a < n) (h1 : f a = false) (h2 : g a = true) : ct0 n f + 1 ≤ ct0 n g := by
  have := ct0_drop (f := fun i => f i || i == a) (g := f) ha (by simp) h1 (fun i _ hne => by simp [hne])
  have h3 : ct0 n (fun i => f i || i == a) ≤ ct0 n g := ct_mono (fun i hi hh => by
    by_cases e : i = a
    · rw [e]; exact h2
    · exact h i hi (by simpa [e] using hh))
  omega
/-- what no edge of the set touches stays alone -/
theorem jRun_alone {fr to : Nat → Nat} {s v : Nat} : ∀ k, (∀ e, e < k → s.testBit e = true → fr e ≠ v ∧ to e ≠ v) → (jRun fr to s k).1 v = v ∧ ∀ w, (jRun fr to s k).1 w = v → w = v
  | 0, _ => ⟨rfl, fun w h => h⟩
  | k + 1, h => by
    obtain ⟨i1, i2⟩ := jRun_alone (fr := fr) (to := to) (s := s) (v := v) k (fun e he => h e (by omega))
    unfold jRun
    cases hs : s.testBit k with
    | false => exact ⟨i1, i2⟩
    | true =>
      rw [if_pos rfl]
      have hk := h k (by omega) hs
      unfold jStep
      by_cases hg : (jRun fr to s k).1 (fr k) = (jRun fr to s k).1 (to k)
      · rw [if_pos hg]; exact ⟨i1, i2⟩
      · rw [if_neg hg]
        constructor
        · show (if (jRun fr to s k).1 v = (jRun fr to s k).1 (to k) then (jRun fr to s k).1 (fr k) else (jRun fr to s k).1 v) = v
          rw [if_neg (fun h2 => hk.2 (i2 _ (by rw [← h2]; exact i1)))]; exact i1
        · intro w hw
          have hw : (if (jRun fr to s k).1 w = (jRun fr to s k).1 (to k) then (jRun fr to s k).1 (fr k) else (jRun fr to s k).1 w) = v := hw
          split at hw
          · exact absurd (i2 _ hw) hk.1
          · exact i2 w hw
/-- an even set that closes just once has two ends at most at each vertex -/
theorem ring_two {fr to : Nat → Nat} {nv m z : Nat} (hm : m ≤ 64) (hN : ∀ e, e < m → fr e < nv ∧ to e < nv) (hz : z < 2 ^ m) (he : evn fr to nv m z) (hd : (jRun fr to z m).2.2.1 = 1) : ∀ v, v < nv → dg fr to z m v ≤ 2 := by
  intro w hw
  refine Classical.byContradiction (fun hn => ?_)
  have hw4 : 4 ≤ dg fr to z m w := by have := he w hw; omega
  have hgc := gc_run (fr := fr) (to := to) (N := nv) (s := z) m (fun e h _ => hN e h)
  rw [hd] at hgc
  have hsum := sm_dg (fr := fr) (to := to) (nv := nv) (z := z) m hN
  -- each touched vertex has two ends, one has four
  have h1 : 2 * ct0 nv (fun v => decide (1 ≤ dg fr to z m v)) + 2 ≤ sm nv (fun v => dg fr to z m v) := by
    rw [← sm_ct]
    have : sm nv (fun v => (if decide (1 ≤ dg fr to z m v) then 2 else 0) + (if w = v then 2 else 0)) ≤ sm nv (fun v => dg fr to z m v) := sm_le (fun v hv => by
      have hev := he v hv
      by_cases e : w = v
      · subst e; rw [if_pos rfl]; split <;> omega
      · rw [if_neg e]
        by_cases q : 1 ≤ dg fr to z m v
        · rw [if_pos (decide_eq_true q)]; omega
        · rw [if_neg (by simp [q])]; omega)
    rw [sm_add, sm_one hw] at this
    exact this
  -- the untouched are groups of their own, and there is one more
  obtain ⟨e, hem, hez⟩ : ∃ e, e < m ∧ z.testBit e = true := by
    refine Classical.byContradiction (fun hno => ?_)
    have h0 : ∀ k, k ≤ m → (jRun fr to z k).2.2.1 = 0 := by
      intro k hk
      induction k with
      | zero => rfl
      | succ k ih => rw [jRun_out (fun h => hno ⟨k, by omega, h⟩)]; exact ih (by omega)
    rw [h0 m (Nat.le_refl m)] at hd; cases hd
  have hjo := jOK_run (fr := fr) (to := to) (N := nv) (s := z) m hm (fun e h _ => hN e h)
  have hji := jI_run (fr := fr) (to := to) (N := nv) (s := z) m (fun e h _ => hN e h)
  have hfe := (hN e hem).1
  have hr := hji (fr e) hfe
  have htouch : 1 ≤ dg fr to z m ((jRun fr to z m).1 (fr e)) := by
    by_cases q : (jRun fr to z m).1 (fr e) = fr e
    · rw [q]; exact dg_pos hem hez (Or.inl rfl)
    · refine Classical.byContradiction (fun h0 => ?_)
      have hb := hjo.2.1 (fr e) hfe ((jRun fr to z m).1 (fr e))
      have hf : bd fr to ((jRun fr to z m).2.1 (fr e)) ((jRun fr to z m).1 (fr e)) = false := by
        unfold bd
        refine xs_false _ (fun i _ => ?_)
        cases hbit : ((jRun fr to z m).2.1 (fr e)).testBit i with
        | false => rfl
        | true =>
          obtain ⟨a, b, -⟩ := hjo.2.2.1 (fr e) hfe i hbit
          have hne : ¬ (fr i = (jRun fr to z m).1 (fr e) ∨ to i = (jRun fr to z m).1 (fr e)) := fun h => h0 (dg_pos a b h)
          rw [bne_of (fun h => hne (Or.inl h)), bne_of (fun h => hne (Or.inr h))]; rfl
      rw [hf, bne_of (fun h => q h.symm)] at hb
      simp at hb
  have h2 : ct0 nv (fun v => !decide (1 ≤ dg fr to z m v)) + 1 ≤ gc nv (jRun fr to z m) := by
    refine ct_more (a := (jRun fr to z m).1 (fr e)) (fun v hv hh => ?_) hr.1 (by simp [htouch]) (by rw [hr.2]; simp)
    have h0 : ¬ 1 ≤ dg fr to z m v := by simpa using hh
    have := (jRun_alone (fr := fr) (to := to) (s := z) (v := v) m (fun i hi hb => ⟨fun q => h0 (dg_pos hi hb (Or.inl q)), fun q => h0 (dg_pos hi hb (Or.inr q))⟩)).1
    rw [this]; simp
  have h3 := ct_not nv (fun v => decide (1 ≤ dg fr to z m v))
  omega
theorem rng_iff {fr to : Nat → Nat} {nv m z : Nat} (hm : m ≤ 64) (hN : ∀ e, e < m → fr e < nv ∧ to e < nv) (hz : z < 2 ^ m) (he : evn fr to nv m z) : rng fr to nv m z ↔ (jRun fr to z m).2.2.1 = 1 := by
  constructor
  · exact fun h => h.2.2
  · intro hd
    refine ⟨fun h0 => ?_, ring_two hm hN hz he hd, hd⟩
    subst h0
    have h0 : ∀ k, (jRun fr to 0 k).2.2.1 = 0 := by
      intro k
      induction k with
      | zero => rfl
      | succ k ih => rw [jRun_out (by rw [Nat.zero_testBit]; decide)]; exact ih
    rw [h0 m] at hd; cases hd
