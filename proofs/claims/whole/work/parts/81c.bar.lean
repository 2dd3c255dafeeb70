-- bounds
def qm (x : Rat) : Rat := if x ≤ 1 then 1 else x
theorem qm_1 (x : Rat) : 1 ≤ qm x := by unfold qm; split <;> grind
theorem qm_x (x : Rat) : x ≤ qm x := by unfold qm; split <;> grind
def qB (M : QM) : List Nat → Rat
  | [] => 1
  | p :: L => qm (M p p) * qB M L
theorem qB_1 (M : QM) : ∀ L, 1 ≤ qB M L := by
  intro L; induction L with
  | nil => exact Rat.le_refl
  | cons p L ih => show 1 ≤ qm (M p p) * qB M L; have := qm_1 (M p p); have := Rat.mul_le_mul_of_nonneg_left (a := 1) (b := qB M L) (c := qm (M p p)) ih (by grind); grind
theorem lp.bd {n : Nat} {M : QM} : ∀ {L : List Nat} {X : Nat → Bool} {S : QM}, lp n X S → okL n X L → (∀ i, i < n → X i = true → S i i ≤ M i i) → 0 < qP S L ∧ qP S L ≤ qB M L ∧ lp n (rmvs X L) (qEs S L) ∧ ∀ i, i < n → rmvs X L i = true → qEs S L i i ≤ M i i := by
  intro L; induction L with
  | nil => intro X S h _ hm; exact ⟨by show (0 : Rat) < 1; grind, Rat.le_refl, h, hm⟩
  | cons p L ih =>
    intro X S h hl hm
    obtain ⟨a, b, c, d⟩ := ih (h.el hl.1 hl.2.1) hl.2.2 (fun i hi xi => Rat.le_trans (h.dec hl.1 hl.2.1 hi (rmv_t.mp xi).1) (hm i hi (rmv_t.mp xi).1))
    have e1 : 0 < (if S p p = 0 then 1 else S p p) ∧ (if S p p = 0 then 1 else S p p) ≤ qm (M p p) := by
      have h0 := h.dg hl.1 hl.2.1
      have h1 := hm p hl.1 hl.2.1
      have := qm_1 (M p p)
      have := qm_x (M p p)
      split <;> constructor <;> grind
    refine ⟨Rat.mul_pos e1.1 a, ?_, c, d⟩
    show _ * qP (qE S p) L ≤ qm (M p p) * qB M L
    generalize (if S p p = 0 then 1 else S p p) = x at e1
    have m1 := Rat.mul_le_mul_of_nonneg_left (a := qP (qE S p) L) (b := qB M L) (c := x) b (Rat.le_of_lt e1.1)
    have m2 := Rat.mul_le_mul_of_nonneg_left (a := x) (b := qm (M p p)) (c := qB M L) e1.2 (by have := qB_1 M L; grind)
    grind
theorem lp.ent {n i j : Nat} {X : Nat → Bool} {S : QM} (h : lp n X S) (hi : i < n) (hj : j < n) (xi : X i = true) (xj : X j = true) : - S i i ≤ S i j ∧ S i j ≤ S i i := by
  by_cases e : i = j
  · subst e; have := h.dg hi xi; grind
  · have := h.two hi hj xi xj e
    have := h.2.1 i j hi hj xi xj e
    have := h.dg hi xi
    grind
theorem lp.tb {n i j : Nat} {L : List Nat} {X : Nat → Bool} {S : QM} (h : lp n X S) (hl : okL n X L) (hi : i < n) (hj : j < n) (xi : rmvs X L i = true) (xj : rmvs X L j = true) : - (qB S L * qm (S i i)) ≤ qP S L * qEs S L i j ∧ qP S L * qEs S L i j ≤ qB S L * qm (S i i) := by
  obtain ⟨a, b, c, d⟩ := h.bd (M := S) hl (fun _ _ _ => Rat.le_refl)
  have e := c.ent hi hj xi xj
  have f := d i hi xi
  have g := c.dg hi xi
  have m1 := Rat.mul_le_mul_of_nonneg_left (a := qEs S L i j) (b := qEs S L i i) (c := qP S L) e.2 (Rat.le_of_lt a)
  have m2 := Rat.mul_le_mul_of_nonneg_left (a := - qEs S L i j) (b := qEs S L i i) (c := qP S L) (by grind) (Rat.le_of_lt a)
  have m3 := Rat.mul_le_mul_of_nonneg_left (a := qEs S L i i) (b := qm (S i i)) (c := qP S L) (by have := qm_x (S i i); grind) (Rat.le_of_lt a)
  have m4 := Rat.mul_le_mul_of_nonneg_left (a := qP S L) (b := qB S L) (c := qm (S i i)) b (by have := qm_1 (S i i); grind)
  grind
/-- the product of degrees, in whole numbers -/
def bN (d : Nat → Nat) : List Nat → Nat
  | [] => 1
  | p :: L => max 1 (d p) * bN d L
def sL (d : Nat → Nat) : List Nat → Nat
  | [] => 0
  | p :: L => d p + sL d L
def sN : Nat → (Nat → Nat) → Nat
  | 0, _ => 0
  | n + 1, f => sN n f + f n
theorem sN_congr {n : Nat} {f g : Nat → Nat} (h : ∀ i, i < n → f i = g i) : sN n f = sN n g := by
  induction n with
  | zero => rfl
  | succ n ih => simp only [sN]; rw [ih (fun i hi => h i (by omega)), h n (by omega)]
theorem sN_out {n a : Nat} {f : Nat → Nat} (ha : a < n) : sN n f = f a + sN n (fun j => if j = a then 0 else f j) := by
  induction n with
  | zero => omega
  | succ n ih =>
    simp only [sN]
    rcases Nat.lt_or_ge a n with q | q
    · rw [ih q, if_neg (by omega : ¬ n = a)]; omega
    · have : a = n := by omega
      subst this
      rw [if_pos rfl, sN_congr (g := fun j => if j = a then 0 else f j) (fun i hi => by show f i = if i = a then 0 else f i; rw [if_neg (by omega)])]; omega
theorem okL.sum {n : Nat} {d : Nat → Nat} : ∀ {L : List Nat} {X : Nat → Bool}, okL n X L → sL d L ≤ sN n (fun j => if X j = true then d j else 0) := by
  intro L; induction L with
  | nil => intro X _; exact Nat.zero_le _
  | cons p L ih =>
    intro X h
    have := ih h.2.2
    rw [sN_out h.1, if_pos h.2.1]
    show d p + sL d L ≤ _
    rw [sN_congr (g := fun j => if rmv X p j = true then d j else 0)]
    · omega
    · intro i _
      by_cases e : i = p
      · rw [if_pos e, if_neg (fun h => (rmv_t.mp h).2 e)]
      · rw [if_neg e]
        by_cases x : X i = true
        · rw [if_pos x, if_pos (rmv_t.mpr ⟨x, e⟩)]
        · rw [if_neg x, if_neg (fun h => x (rmv_t.mp h).1)]
theorem sN_le1 {n : Nat} {f : Nat → Nat} (h : ∀ i, f i ≤ 1) : sN n f ≤ n := by
  induction n with
  | zero => exact Nat.le_refl _
  | succ n ih => simp only [sN]; have := h n; omega
theorem sL_one : ∀ L : List Nat, sL (fun _ => 1) L = L.length := by
  intro L; induction L with
  | nil => rfl
  | cons p L ih => show 1 + _ = _; rw [ih]; simp; omega
theorem okL.len {n : Nat} {L : List Nat} {X : Nat → Bool} (h : okL n X L) : L.length ≤ n := by
  rw [← sL_one]
  exact Nat.le_trans (h.sum (d := fun _ => 1)) (sN_le1 (fun i => by split <;> omega))
theorem am1 : ∀ d : Nat, max 1 d * 625 * 4 ^ d ≤ 1024 * 5 ^ d
  | 0 => by decide
  | 1 => by decide
  | 2 => by decide
  | 3 => by decide
  | 4 => by decide
  | d + 5 => by
    have ih := am1 (d + 4)
    have hk : 4 ≤ d + 4 := by omega
    show max 1 (d + 4 + 1) * 625 * 4 ^ (d + 4 + 1) ≤ 1024 * 5 ^ (d + 4 + 1)
    generalize d + 4 = k at *
    rw [show max 1 k = k by omega] at ih
    rw [show max 1 (k + 1) = k + 1 by omega, Nat.pow_succ 4 k, Nat.pow_succ 5 k]
    generalize 4 ^ k = x at *
    generalize 5 ^ k = y at *
    have h2 : (k + 1) * 4 ≤ k * 5 := by omega
    calc (k + 1) * 625 * (x * 4) = (k + 1) * 4 * (625 * x) := by grind
      _ ≤ k * 5 * (625 * x) := Nat.mul_le_mul_right _ h2
      _ = 5 * (k * 625 * x) := by grind
      _ ≤ 5 * (1024 * y) := Nat.mul_le_mul_left _ ih
      _ = 1024 * (y * 5) := by grind
theorem am2 (d : Nat → Nat) : ∀ L : List Nat, bN d L * 625 ^ L.length * 4 ^ sL d L ≤ 1024 ^ L.length * 5 ^ sL d L := by
  intro L; induction L with
  | nil => exact Nat.le_refl _
  | cons p L ih =>
    show max 1 (d p) * bN d L * 625 ^ (L.length + 1) * 4 ^ (d p + sL d L) ≤ 1024 ^ (L.length + 1) * 5 ^ (d p + sL d L)
    rw [Nat.pow_succ, Nat.pow_succ, Nat.pow_add, Nat.pow_add]
    have := Nat.mul_le_mul (am1 (d p)) ih
    grind
theorem am3 {b l s : Nat} (hl : l ≤ 16) (hs : s ≤ 58) (h : b * 625 ^ l * 4 ^ s ≤ 1024 ^ l * 5 ^ s) : b < 2147483648 := by
  have h1 : 625 ^ (16 - l) ≤ 1024 ^ (16 - l) := Nat.pow_le_pow_left (by decide) _
  have h2 : 4 ^ (58 - s) ≤ 5 ^ (58 - s) := Nat.pow_le_pow_left (by decide) _
  have h3 := Nat.mul_le_mul (Nat.mul_le_mul h h1) h2
  have e1 : b * 625 ^ l * 4 ^ s * 625 ^ (16 - l) * 4 ^ (58 - s) = b * (625 ^ 16 * 4 ^ 58) := by
    rw [show (625 : Nat) ^ 16 = 625 ^ l * 625 ^ (16 - l) by rw [← Nat.pow_add]; congr 1; omega, show (4 : Nat) ^ 58 = 4 ^ s * 4 ^ (58 - s) by rw [← Nat.pow_add]; congr 1; omega]
    generalize 625 ^ l = x1; generalize 625 ^ (16 - l) = x2; generalize 4 ^ s = x3; generalize 4 ^ (58 - s) = x4
    grind
  have e2 : 1024 ^ l * 5 ^ s * 1024 ^ (16 - l) * 5 ^ (58 - s) = 1024 ^ 16 * 5 ^ 58 := by
    rw [show (1024 : Nat) ^ 16 = 1024 ^ l * 1024 ^ (16 - l) by rw [← Nat.pow_add]; congr 1; omega, show (5 : Nat) ^ 58 = 5 ^ s * 5 ^ (58 - s) by rw [← Nat.pow_add]; congr 1; omega]
    generalize 1024 ^ l = x1; generalize 1024 ^ (16 - l) = x2; generalize 5 ^ s = x3; generalize 5 ^ (58 - s) = x4
    grind
  rw [e1, e2] at h3
  refine Nat.lt_of_not_le (fun hb => ?_)
  have h4 := Nat.mul_le_mul_right (625 ^ 16 * 4 ^ 58) hb
  have h5 := Nat.le_trans h4 h3
  exact absurd h5 (by decide +kernel)
theorem qB_N {M : QM} {d : Nat → Nat} : ∀ {L : List Nat}, (∀ p, p ∈ L → M p p = (d p : Rat)) → qB M L = (bN d L : Rat) := by
  intro L; induction L with
  | nil => intro _; rfl
  | cons p L ih =>
    intro h
    show qm (M p p) * qB M L = ((max 1 (d p) * bN d L : Nat) : Rat)
    rw [ih (fun q hq => h q (List.mem_cons_of_mem _ hq)), h p List.mem_cons_self, Rat.natCast_mul]
    congr 1
    unfold qm
    by_cases e : d p ≤ 1
    · rw [if_pos (by exact_mod_cast e), show max 1 (d p) = 1 by omega]; rfl
    · rw [if_neg (by exact_mod_cast e), show max 1 (d p) = d p by omega]
