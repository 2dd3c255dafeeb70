-- spans of numbers under xor, and rows with falling top bits
/-- what sums of those that P has can be -/
def spS (P : Nat → Prop) (y : Nat) : Prop := ∀ V : Nat → Prop, V 0 → (∀ a b, V a → V b → V (a ^^^ b)) → (∀ a, P a → V a) → V y
theorem spS_0 (P : Nat → Prop) : spS P 0 := fun _ h _ _ => h
theorem spS_x {P : Nat → Prop} {a b : Nat} (h1 : spS P a) (h2 : spS P b) : spS P (a ^^^ b) := fun V v0 vx vp => vx a b (h1 V v0 vx vp) (h2 V v0 vx vp)
theorem spS_p {P : Nat → Prop} {a : Nat} (h : P a) : spS P a := fun _ _ _ vp => vp a h
theorem spS_in {P Q : Nat → Prop} (h : ∀ a, P a → spS Q a) {y : Nat} (hy : spS P y) : spS Q y := hy (spS Q) (spS_0 Q) (fun _ _ => spS_x) h
theorem xor_self' (a : Nat) : a ^^^ a = 0 := Nat.xor_self a
theorem xor_can (a b : Nat) : (a ^^^ b) ^^^ b = a := by rw [Nat.xor_assoc, Nat.xor_self, Nat.xor_zero]
theorem xor_mid (a b c : Nat) : (a ^^^ c) ^^^ (b ^^^ c) = a ^^^ b := by
  rw [Nat.xor_assoc, ← Nat.xor_assoc c b c, Nat.xor_comm c b, Nat.xor_assoc b c c, Nat.xor_self, Nat.xor_zero]
theorem spS_ins {P : Nat → Prop} {z y : Nat} : spS (fun a => P a ∨ a = z) y ↔ spS P y ∨ spS P (y ^^^ z) := by
  constructor
  · intro h
    refine h (fun y => spS P y ∨ spS P (y ^^^ z)) (Or.inl (spS_0 P)) (fun a b ha hb => ?_) (fun a ha => ?_)
    · rcases ha with ha | ha <;> rcases hb with hb | hb
      · exact Or.inl (spS_x ha hb)
      · exact Or.inr (by have := spS_x ha hb; rwa [← Nat.xor_assoc] at this)
      · refine Or.inr ?_
        have := spS_x ha hb
        rwa [Nat.xor_assoc, Nat.xor_comm z b, ← Nat.xor_assoc] at this
      · exact Or.inl (by have := spS_x ha hb; rwa [xor_mid] at this)
    · rcases ha with ha | ha
      · exact Or.inl (spS_p ha)
      · exact Or.inr (by rw [ha, Nat.xor_self]; exact spS_0 P)
  · rintro (h | h)
    · exact spS_in (fun a ha => spS_p (Or.inl ha)) h
    · have h1 : spS (fun a => P a ∨ a = z) (y ^^^ z) := spS_in (fun a ha => spS_p (Or.inl ha)) h
      have := spS_x h1 (spS_p (Or.inr rfl))
      rwa [xor_can] at this
theorem cb_pow (r : Nat → Nat) {k i : Nat} (hi : i < k) : cb r k (2 ^ i) = r i := by
  refine Nat.eq_of_testBit_eq (fun e => ?_)
  rw [cb_bit, xs_one hi]
  · rw [Nat.testBit_two_pow_self]; simp
  · intro j _ hne
    rw [Nat.testBit_two_pow_of_ne (fun h => hne h.symm)]; rfl
theorem cb_in {P : Nat → Prop} {r : Nat → Nat} : ∀ {k c : Nat}, (∀ i, i < k → spS P (r i)) → spS P (cb r k c)
  | 0, _, _ => spS_0 P
  | k + 1, c, h => by
    refine spS_x (cb_in (fun i hi => h i (by omega))) ?_
    split
    · exact h k (by omega)
    · exact spS_0 P
theorem cb_sp {r : Nat → Nat} {k y : Nat} : (∃ c, y = cb r k c) ↔ spS (fun a => ∃ i, i < k ∧ a = r i) y := by
  constructor
  · rintro ⟨c, rfl⟩
    exact cb_in (fun i hi => spS_p ⟨i, hi, rfl⟩)
  · intro h
    refine h (fun y => ∃ c, y = cb r k c) ⟨0, (cb_0 r k).symm⟩ ?_ ?_
    · rintro a b ⟨c, rfl⟩ ⟨d, rfl⟩
      exact ⟨c ^^^ d, (cb_xor r k c d).symm⟩
    · rintro a ⟨i, hi, rfl⟩
      exact ⟨2 ^ i, (cb_pow r hi).symm⟩
/-- rows whose top bits fall -/
def rowsOK (rd : Nat) (rows : Nat → Nat) : Prop := ∃ tp : Nat → Nat, (∀ i, i < rd → (rows i).testBit (tp i) = true ∧ rows i < 2 ^ (tp i + 1)) ∧ ∀ i j, i < j → j < rd → tp j < tp i
theorem hi_bit {x t j : Nat} (h : x < 2 ^ (t + 1)) (hj : t < j) : x.testBit j = false := Nat.testBit_lt_two_pow (Nat.lt_of_lt_of_le h (Nat.pow_le_pow_right (by omega) (by omega)))
theorem lt_bit {x y i : Nat} (hx : x.testBit i = false) (hy : y.testBit i = true) (h : ∀ j, i < j → x.testBit j = y.testBit j) : x < y := by
  have h1 : x / 2 ^ (i + 1) = y / 2 ^ (i + 1) := Nat.eq_of_testBit_eq (fun j => by rw [Nat.testBit_div_two_pow, Nat.testBit_div_two_pow]; exact h _ (by omega))
  have h2 : x % 2 ^ (i + 1) < 2 ^ i := Nat.lt_pow_two_of_testBit _ (fun j hj => by
    rw [Nat.testBit_mod_two_pow]
    by_cases e : j = i
    · subst e; rw [hx]; simp
    · simp; intro; omega)
  have h3 : 2 ^ i ≤ y % 2 ^ (i + 1) := Nat.ge_two_pow_of_testBit (by rw [Nat.testBit_mod_two_pow, hy]; simp)
  have e1 := Nat.div_add_mod x (2 ^ (i + 1))
  have e2 := Nat.div_add_mod y (2 ^ (i + 1))
  rw [h1] at e1
  omega
theorem xlt {row t y : Nat} (h1 : row.testBit t = true) (h2 : row < 2 ^ (t + 1)) : y ^^^ row < y ↔ y.testBit t = true := by
  have hh : ∀ j, t < j → (y ^^^ row).testBit j = y.testBit j := fun j hj => by rw [Nat.testBit_xor, hi_bit h2 hj]; simp
  constructor
  · intro h
    cases hy : y.testBit t with
    | true => rfl
    | false =>
      have := lt_bit hy (by rw [Nat.testBit_xor, hy, h1]; rfl) (fun j hj => (hh j hj).symm)
      omega
  · intro h
    exact lt_bit (by rw [Nat.testBit_xor, h, h1]; rfl) h hh
theorem rsn_ok {rows : Nat → Nat} {tp : Nat → Nat} {z : Nat} : ∀ k, (∀ i, i < k → (rows i).testBit (tp i) = true ∧ rows i < 2 ^ (tp i + 1)) → (∀ i j, i < j → j < k → tp j < tp i) →
    (∀ i, i < k → (rsn rows k z).testBit (tp i) = false) ∧ spS (fun a => ∃ i, i < k ∧ a = rows i) (z ^^^ rsn rows k z)
  | 0, _, _ => ⟨fun i h => absurd h (Nat.not_lt_zero _), by simp only [rsn]; rw [Nat.xor_self]; exact spS_0 _⟩
  | k + 1, h, ht => by
    obtain ⟨ih1, ih2⟩ := rsn_ok (z := z) k (fun i hi => h i (by omega)) (fun i j hij hj => ht i j hij (by omega))
    have hk := h k (by omega)
    have ih2' : spS (fun a => ∃ i, i < k + 1 ∧ a = rows i) (z ^^^ rsn rows k z) := spS_in (fun a ⟨i, hi, e⟩ => spS_p ⟨i, by omega, e⟩) ih2
    simp only [rsn]
    by_cases hc : rsn rows k z ^^^ rows k < rsn rows k z
    · rw [if_pos hc]
      refine ⟨fun i hi => ?_, ?_⟩
      · rw [Nat.testBit_xor]
        by_cases hik : i = k
        · subst hik; rw [(xlt hk.1 hk.2).mp hc, hk.1]; rfl
        · rw [ih1 i (by omega), hi_bit hk.2 (ht i k (by omega) (by omega))]; rfl
      · rw [← Nat.xor_assoc]; exact spS_x ih2' (spS_p ⟨k, by omega, rfl⟩)
    · rw [if_neg hc]
      refine ⟨fun i hi => ?_, ih2'⟩
      by_cases hik : i = k
      · subst hik; exact bool_f (fun h => hc ((xlt hk.1 hk.2).mpr h))
      · exact ih1 i (by omega)
theorem cb_tops {rows tp : Nat → Nat} {k c : Nat} (h : ∀ i, i < k → (rows i).testBit (tp i) = true ∧ rows i < 2 ^ (tp i + 1)) (ht : ∀ i j, i < j → j < k → tp j < tp i) (h0 : ∀ i, i < k → (cb rows k c).testBit (tp i) = false) : ∀ i, i < k → c.testBit i = false := by
  intro i
  induction i using Nat.strongRecOn with
  | _ i ih =>
    intro hi
    refine bool_f (fun hc => ?_)
    have := h0 i hi
    rw [cb_bit, xs_one hi] at this
    · rw [hc, (h i hi).1] at this; cases this
    · intro j hj hne
      rcases Nat.lt_or_ge j i with q | q
      · rw [ih j q hj]; rfl
      · rw [hi_bit (h j hj).2 (ht i j (by omega) hj)]; simp
theorem cb_none {r : Nat → Nat} {c : Nat} : ∀ k, (∀ i, i < k → c.testBit i = false) → cb r k c = 0
  | 0, _ => rfl
  | k + 1, h => by simp [cb, cb_none k (fun i hi => h i (by omega)), h k (by omega)]
/-- the rows span what P spans -/
def rowsS (rd : Nat) (rows : Nat → Nat) (P : Nat → Prop) : Prop := rowsOK rd rows ∧ ∀ y, spS (fun a => ∃ i, i < rd ∧ a = rows i) y ↔ spS P y
theorem rowsS_0 (rows : Nat → Nat) {P : Nat → Prop} (hP : ∀ a, ¬ P a) : rowsS 0 rows P := by
  refine ⟨⟨fun _ => 0, fun i h => absurd h (Nat.not_lt_zero _), fun i j _ h => absurd h (Nat.not_lt_zero _)⟩, fun y => ⟨spS_in (fun a ⟨i, h, _⟩ => absurd h (Nat.not_lt_zero _)), spS_in (fun a h => absurd h (hP a))⟩⟩
theorem rowsS.rest {rd : Nat} {rows : Nat → Nat} {P : Nat → Prop} (h : rowsS rd rows P) (z : Nat) : rsn rows rd z = 0 ↔ spS P z := by
  obtain ⟨⟨tp, h1, h2⟩, h3⟩ := h
  obtain ⟨a1, a2⟩ := rsn_ok (z := z) rd h1 h2
  rw [← h3]
  constructor
  · intro h; rw [h, Nat.xor_zero] at a2; exact a2
  · intro h
    have h4 : spS (fun a => ∃ i, i < rd ∧ a = rows i) (rsn rows rd z) := by
      have := spS_x h a2
      rwa [← Nat.xor_assoc, Nat.xor_self, Nat.zero_xor] at this
    obtain ⟨c, hc⟩ := cb_sp.mpr h4
    rw [hc] at a1
    rw [hc]; exact cb_none rd (cb_tops h1 h2 a1)
theorem rowsS.rsp {rd : Nat} {rows : Nat → Nat} {P : Nat → Prop} (h : rowsS rd rows P) (z : Nat) : spS P (z ^^^ rsn rows rd z) := by
  obtain ⟨⟨tp, h1, h2⟩, h3⟩ := h
  exact (h3 _).mp (rsn_ok (z := z) rd h1 h2).2
/-- a row comes in at p -/
def insR (rows : Nat → Nat) (p x : Nat) : Nat → Nat := fun j => if j < p then rows j else if j = p then x else rows (j - 1)
theorem insR_ok {rd p x : Nat} {rows : Nat → Nat} (hp : p ≤ rd) (h : rowsOK rd rows) (hx : x ≠ 0) (hz : ∀ tp : Nat → Nat, (∀ i, i < rd → (rows i).testBit (tp i) = true ∧ rows i < 2 ^ (tp i + 1)) → (∀ i j, i < j → j < rd → tp j < tp i) → ∀ i, i < rd → x.testBit (tp i) = false) (h1 : ∀ i, i < p → x ≤ rows i) (h2 : ∀ i, p ≤ i → i < rd → rows i < x) : rowsOK (rd + 1) (insR rows p x) := by
  obtain ⟨tp, t1, t2⟩ := h
  have hzz := hz tp t1 t2
  have hxl : 2 ^ x.log2 ≤ x := Nat.log2_self_le hx
  have hxu : x < 2 ^ (x.log2 + 1) := Nat.lt_log2_self
  have hxb : x.testBit x.log2 = true := by
    rw [Nat.testBit_eq_decide_div_mod_eq]
    have : x / 2 ^ x.log2 = 1 := by
      refine Nat.div_eq_of_lt_le ?_ ?_
      · rw [Nat.one_mul]; exact hxl
      · rw [Nat.pow_succ] at hxu; omega
    rw [this]; rfl
  have hne : ∀ i, i < rd → tp i ≠ x.log2 := fun i hi e => by have := hzz i hi; rw [e, hxb] at this; cases this
  have hlo : ∀ i, i < rd → 2 ^ tp i ≤ rows i := fun i hi => Nat.ge_two_pow_of_testBit (t1 i hi).1
  have hb1 : ∀ i, i < p → x.log2 < tp i := fun i hi => by
    rcases Nat.lt_or_ge x.log2 (tp i) with q | q
    · exact q
    · have q2 : tp i + 1 ≤ x.log2 := by have := hne i (by omega); omega
      have h3 := (t1 i (by omega)).2
      have h4 : 2 ^ (tp i + 1) ≤ 2 ^ x.log2 := Nat.pow_le_pow_right (by omega) q2
      have := h1 i hi; omega
  have hb2 : ∀ i, p ≤ i → i < rd → tp i < x.log2 := fun i hi hr => by
    rcases Nat.lt_or_ge (tp i) x.log2 with q | q
    · exact q
    · have q2 : x.log2 + 1 ≤ tp i := by have := hne i hr; omega
      have h4 : 2 ^ (x.log2 + 1) ≤ 2 ^ tp i := Nat.pow_le_pow_right (by omega) q2
      have := h2 i hi hr; have := hlo i hr; omega
  refine ⟨insR tp p x.log2, fun i hi => ?_, fun i j hij hj => ?_⟩
  · unfold insR
    by_cases a : i < p
    · simp only [if_pos a]; exact t1 i (by omega)
    · by_cases b : i = p
      · simp only [if_neg a, if_pos b]; exact ⟨hxb, hxu⟩
      · simp only [if_neg a, if_neg b]; exact t1 (i - 1) (by omega)
  · unfold insR
    by_cases a : i < p
    · simp only [if_pos a]
      by_cases a2 : j < p
      · simp only [if_pos a2]; exact t2 i j hij (by omega)
      · by_cases b2 : j = p
        · simp only [if_neg a2, if_pos b2]; exact hb1 i a
        · simp only [if_neg a2, if_neg b2]; exact t2 i (j - 1) (by omega) (by omega)
    · have a2 : ¬ j < p := by omega
      have b2 : ¬ j = p := by omega
      simp only [if_neg a, if_neg a2, if_neg b2]
      by_cases b : i = p
      · simp only [if_pos b]; exact hb2 (j - 1) (by omega) (by omega)
      · simp only [if_neg b]; exact t2 (i - 1) (j - 1) (by omega) (by omega)
theorem insR_sp {rd p x : Nat} {rows : Nat → Nat} (hp : p ≤ rd) (y : Nat) : spS (fun a => ∃ i, i < rd + 1 ∧ a = insR rows p x i) y ↔ spS (fun a => (∃ i, i < rd ∧ a = rows i) ∨ a = x) y := by
  constructor
  · refine spS_in (fun a ⟨i, hi, e⟩ => spS_p ?_)
    unfold insR at e
    by_cases h1 : i < p
    · rw [if_pos h1] at e; exact Or.inl ⟨i, by omega, e⟩
    · by_cases h2 : i = p
      · rw [if_neg h1, if_pos h2] at e; exact Or.inr e
      · rw [if_neg h1, if_neg h2] at e; exact Or.inl ⟨i - 1, by omega, e⟩
  · refine spS_in (fun a ha => spS_p ?_)
    rcases ha with ⟨i, hi, e⟩ | e
    · by_cases h1 : i < p
      · exact ⟨i, by omega, by unfold insR; rw [if_pos h1]; exact e⟩
      · exact ⟨i + 1, by omega, by unfold insR; rw [if_neg (by omega), if_neg (by omega)]; exact e⟩
    · exact ⟨p, by omega, by unfold insR; rw [if_neg (by omega), if_pos rfl]; exact e⟩
theorem spS_congr {P Q : Nat → Prop} (h : ∀ y, spS P y ↔ spS Q y) (z y : Nat) : spS (fun a => P a ∨ a = z) y ↔ spS (fun a => Q a ∨ a = z) y := by
  rw [spS_ins, spS_ins, h, h]
/-- what is left of z comes in: then z is spanned too -/
theorem rowsS.ins {rd p z : Nat} {rows : Nat → Nat} {P : Nat → Prop} (h : rowsS rd rows P) (hp : p ≤ rd) (hx : rsn rows rd z ≠ 0) (h1 : ∀ i, i < p → rsn rows rd z ≤ rows i) (h2 : ∀ i, p ≤ i → i < rd → rows i < rsn rows rd z) : rowsS (rd + 1) (insR rows p (rsn rows rd z)) (fun a => P a ∨ a = z) := by
  refine ⟨insR_ok hp h.1 hx (fun tp t1 t2 => (rsn_ok (z := z) rd t1 t2).1) h1 h2, fun y => ?_⟩
  rw [insR_sp hp, spS_congr h.2, spS_ins, spS_ins]
  have hr := h.rsp z
  have e : ∀ y, spS P (y ^^^ rsn rows rd z) ↔ spS P (y ^^^ z) := fun y => ⟨fun h => by
    have := spS_x h hr
    rwa [xor_mid] at this, fun h => by
    have := spS_x h hr
    rwa [Nat.xor_comm z, xor_mid] at this⟩
  rw [e]
theorem rowsS.same {rd z : Nat} {rows : Nat → Nat} {P : Nat → Prop} (h : rowsS rd rows P) (hz : spS P z) : rowsS rd rows (fun a => P a ∨ a = z) := by
  refine ⟨h.1, fun y => ?_⟩
  rw [h.2, spS_ins]
  exact ⟨Or.inl, fun q => q.elim id (fun q => by have := spS_x q hz; rwa [xor_can] at this)⟩
/-- rows below 2 ^ b are b at most -/
theorem rowsOK_le {b : Nat} : ∀ {rd : Nat} {rows : Nat → Nat}, rowsOK rd rows → (∀ i, i < rd → rows i < 2 ^ b) → rd ≤ b := by
  intro rd rows ⟨tp, t1, t2⟩ hb
  have h0 : ∀ i, i < rd → tp i + i < b := by
    intro i
    induction i with
    | zero =>
      intro hi
      have h1 := Nat.ge_two_pow_of_testBit (t1 0 hi).1
      have h2 := hb 0 hi
      exact (Nat.pow_lt_pow_iff_right (by omega : 1 < 2)).mp (by show 2 ^ (tp 0 + 0) < 2 ^ b; rw [Nat.add_zero]; omega)
    | succ i ih =>
      intro hi
      have := ih (by omega)
      have := t2 i (i + 1) (by omega) hi
      omega
  rcases Nat.eq_zero_or_pos rd with h | h
  · omega
  · have := h0 (rd - 1) (by omega); omega
theorem rowsOK.mono {rd : Nat} {rows : Nat → Nat} (h : rowsOK rd rows) {i j : Nat} (hij : i < j) (hj : j < rd) : rows j < rows i := by
  obtain ⟨tp, t1, t2⟩ := h
  have h1 := (t1 j hj).2
  have h2 := Nat.ge_two_pow_of_testBit (t1 i (by omega)).1
  have h3 : 2 ^ (tp j + 1) ≤ 2 ^ tp i := Nat.pow_le_pow_right (by omega) (t2 i j hij hj)
  omega
theorem rowsS.cong {rd : Nat} {rows : Nat → Nat} {P Q : Nat → Prop} (h : rowsS rd rows P) (e : ∀ a, P a ↔ Q a) : rowsS rd rows Q := by
  have : P = Q := funext (fun a => propext (e a))
  rw [← this]; exact h
theorem lt_split {li : Nat → Nat} {i a : Nat} : ((∃ j, j < i ∧ a = li j) ∨ a = li i) ↔ ∃ j, j < i + 1 ∧ a = li j :=
  ⟨fun h => h.elim (fun ⟨j, hj, e⟩ => ⟨j, by omega, e⟩) (fun e => ⟨i, by omega, e⟩), fun ⟨j, hj, e⟩ => by
    by_cases hji : j = i
    · subst hji; exact Or.inr e
    · exact Or.inl ⟨j, by omega, e⟩⟩
/-- how many of the first k of a list are no sums of earlier ones -/
noncomputable def rk (li : Nat → Nat) : Nat → Nat
  | 0 => 0
  | k + 1 => rk li k + @ite Nat (spS (fun a => ∃ i, i < k ∧ a = li i) (li k)) (Classical.propDecidable _) 0 1
theorem rk_in {li : Nat → Nat} {k : Nat} (h : spS (fun a => ∃ i, i < k ∧ a = li i) (li k)) : rk li (k + 1) = rk li k := by
  simp only [rk]; rw [if_pos h, Nat.add_zero]
theorem rk_out {li : Nat → Nat} {k : Nat} (h : ¬ spS (fun a => ∃ i, i < k ∧ a = li i) (li k)) : rk li (k + 1) = rk li k + 1 := by
  simp only [rk]; rw [if_neg h]
/-- all edges but x; the edges apart from v -/
abbrev wo (m x : Nat) : Nat := fl m ^^^ 2 ^ x
theorem wo_bit {m x e : Nat} (he : e < m) : (wo m x).testBit e = true ↔ e ≠ x := by
  rw [Nat.testBit_xor, fl_bit]
  by_cases h : e = x
  · subst h; rw [Nat.testBit_two_pow_self]; simp [he]
  · rw [Nat.testBit_two_pow_of_ne (fun q => h q.symm)]; simp [he, h]
def ap (fr to : Nat → Nat) (m v : Nat) : Nat := nb (fun e => decide (fr e ≠ v ∧ to e ≠ v)) m
theorem ap_bit {fr to : Nat → Nat} {m v e : Nat} (he : e < m) : (ap fr to m v).testBit e = true ↔ fr e ≠ v ∧ to e ≠ v := by
  unfold ap; rw [nb_bit]; simp [he]
def alM (fr to : Nat → Nat) (nv ne k : Nat) : Nat := ct0 k (fun x => decide (gc nv (jRun fr to (fl ne) ne) < gc nv (jRun fr to (wo ne x) ne)))
def ptM (fr to : Nat → Nat) (nv ne k : Nat) : Nat := ct0 k (fun v => decide (gc nv (jRun fr to (fl ne) ne) + 1 < gc nv (jRun fr to (ap fr to ne v) ne)))
abbrev evM (fr to : Nat → Nat) (ne k : Nat) : Prop := ∀ i, i < k → sz (rgA fr to ne i) ne % 2 = 0
/-- what look answers -/
noncomputable def lkM (nv ne : Nat) (fr to : Nat → Nat) (L : Nat) (li : Nat → Nat) (k : Nat) : Nat :=
  if k = 0 then nv else if k = 1 then ne else if k = 2 then gc nv (jRun fr to (fl ne) ne) else if k = 3 then dmA fr to ne else if k = 4 then alM fr to nv ne ne else if k = 5 then (if evM fr to ne (dmA fr to ne) then 1 else 0) else if k = 6 then L else if k = 7 then rk li L else ptM fr to nv ne nv
