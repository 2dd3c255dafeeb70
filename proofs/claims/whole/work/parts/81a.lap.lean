-- elimination; Laplacians
def qE (M : QM) (p : Nat) : QM := fun i j => M i j - M i p * M p j / M p p
def qEs : QM → List Nat → QM
  | M, [] => M
  | M, p :: L => qEs (qE M p) L
def qP : QM → List Nat → Rat
  | _, [] => 1
  | M, p :: L => (if M p p = 0 then 1 else M p p) * qP (qE M p) L
theorem qEs_app (M : QM) : ∀ (L K : List Nat), qEs M (L ++ K) = qEs (qEs M L) K := by
  intro L; induction L generalizing M with
  | nil => intro K; rfl
  | cons p L ih => intro K; exact ih (qE M p) K
theorem qP_app (M : QM) : ∀ (L K : List Nat), qP M (L ++ K) = qP M L * qP (qEs M L) K := by
  intro L; induction L generalizing M with
  | nil => intro K; show qP M K = 1 * qP M K; grind
  | cons p L ih => intro K; show _ * qP (qE M p) (L ++ K) = _ * qP (qE M p) L * qP (qEs (qE M p) L) K; rw [ih]; grind
theorem q_dz (x : Rat) : x / 0 = 0 := by grind
theorem q_ivn {y : Rat} (h : 0 ≤ y) : 0 ≤ y⁻¹ := by
  by_cases e : y = 0
  · rw [e]; grind
  · exact Rat.le_of_lt (Rat.inv_pos.mpr (by grind))
theorem q_dvn {x y : Rat} (hx : 0 ≤ x) (hy : 0 ≤ y) : 0 ≤ x / y := by rw [Rat.div_def]; exact Rat.mul_nonneg hx (q_ivn hy)
theorem qE_z {M : QM} {p : Nat} (h : M p p = 0) : qE M p = M := by
  funext i j; unfold qE; rw [h, q_dz]; grind
theorem qs_out {n a : Nat} {f : Nat → Rat} (ha : a < n) : qs n f = f a + qs n (fun j => if j = a then 0 else f j) := by
  induction n with
  | zero => omega
  | succ n ih =>
    simp only [qs]
    rcases Nat.lt_or_ge a n with q | q
    · rw [ih q, if_neg (by omega : ¬ n = a)]; grind
    · have : a = n := by omega
      subst this
      rw [if_pos rfl, qs_congr (g := fun j => if j = a then 0 else f j) (fun i hi => by show f i = if i = a then 0 else f i; rw [if_neg (by omega)])]; grind
theorem qs_np {n : Nat} {f : Nat → Rat} (h : ∀ i, i < n → f i ≤ 0) : qs n f ≤ 0 := by
  induction n with
  | zero => exact Rat.le_refl
  | succ n ih => simp only [qs]; have := ih (fun i hi => h i (by omega)); have := h n (by omega); grind
theorem qs_np0 {n a : Nat} {f : Nat → Rat} (h : ∀ i, i < n → f i ≤ 0) (ha : a < n) (h0 : 0 ≤ qs n f) : f a = 0 := by
  rw [qs_out ha] at h0
  have := qs_np (n := n) (f := fun j => if j = a then 0 else f j) (fun i hi => by split; exact Rat.le_refl; exact h i hi)
  have := h a ha
  grind
/-- symmetric, nothing above 0 beside the diagonal, every row's sum 0 among those that are left -/
def lp (n : Nat) (X : Nat → Bool) (S : QM) : Prop :=
  (∀ i j, i < n → j < n → X i = true → X j = true → S i j = S j i) ∧ (∀ i j, i < n → j < n → X i = true → X j = true → i ≠ j → S i j ≤ 0) ∧ ∀ i, i < n → X i = true → qs n (fun j => if X j = true then S i j else 0) = 0
def rmv (X : Nat → Bool) (p : Nat) : Nat → Bool := fun i => X i && i != p
theorem rmv_t {X : Nat → Bool} {p i : Nat} : rmv X p i = true ↔ X i = true ∧ i ≠ p := by unfold rmv; simp
theorem lp.two {n i j : Nat} {X : Nat → Bool} {S : QM} (h : lp n X S) (hi : i < n) (hj : j < n) (xi : X i = true) (xj : X j = true) (hij : i ≠ j) : 0 ≤ S i i + S i j := by
  have h3 := h.2.2 i hi xi
  rw [qs_out hi, if_pos xi, qs_out hj] at h3
  have := qs_np (n := n) (f := fun k => if k = j then 0 else if k = i then 0 else if X k = true then S i k else 0) (fun k hk => by
    split; exact Rat.le_refl
    split; exact Rat.le_refl
    split
    · exact h.2.1 i k hi hk xi ‹_› (by omega)
    · exact Rat.le_refl)
  rw [if_neg (by omega), if_pos xj] at h3
  grind
theorem lp.dg {n i : Nat} {X : Nat → Bool} {S : QM} (h : lp n X S) (hi : i < n) (xi : X i = true) : 0 ≤ S i i := by
  have h3 := h.2.2 i hi xi
  rw [qs_out hi, if_pos xi] at h3
  have := qs_np (n := n) (f := fun k => if k = i then 0 else if X k = true then S i k else 0) (fun k hk => by
    split; exact Rat.le_refl
    split
    · exact h.2.1 i k hi hk xi ‹_› (by omega)
    · exact Rat.le_refl)
  grind
theorem lp.three {n i j k : Nat} {X : Nat → Bool} {S : QM} (h : lp n X S) (hi : i < n) (hj : j < n) (hk : k < n) (xi : X i = true) (xj : X j = true) (xk : X k = true) (hij : i ≠ j) (hik : i ≠ k) (hjk : j ≠ k) : 0 ≤ S i i + S i j + S i k := by
  have h3 := h.2.2 i hi xi
  rw [qs_out hi, if_pos xi, qs_out hj, qs_out hk] at h3
  have := qs_np (n := n) (f := fun l => if l = k then 0 else if l = j then 0 else if l = i then 0 else if X l = true then S i l else 0) (fun l hl => by
    split; exact Rat.le_refl
    split; exact Rat.le_refl
    split; exact Rat.le_refl
    split
    · exact h.2.1 i l hi hl xi ‹_› (by omega)
    · exact Rat.le_refl)
  rw [if_neg (by omega), if_pos xj, if_neg (by omega), if_neg (by omega), if_pos xk] at h3
  grind
theorem lp.zr {n i j : Nat} {X : Nat → Bool} {S : QM} (h : lp n X S) (hi : i < n) (hj : j < n) (xi : X i = true) (xj : X j = true) (h0 : S i i = 0) : S i j = 0 := by
  by_cases e : i = j
  · rw [← e]; exact h0
  · have h1 := h.two hi hj xi xj e
    have h2 := h.2.1 i j hi hj xi xj e
    grind
theorem lp.zc {n i j : Nat} {X : Nat → Bool} {S : QM} (h : lp n X S) (hi : i < n) (hj : j < n) (xi : X i = true) (xj : X j = true) (h0 : S i i = 0) : S j i = 0 := by
  rw [h.1 j i hj hi xj xi]; exact h.zr hi hj xi xj h0
theorem lp.el {n p : Nat} {X : Nat → Bool} {S : QM} (h : lp n X S) (hp : p < n) (xp : X p = true) : lp n (rmv X p) (qE S p) := by
  refine ⟨fun i j hi hj xi xj => ?_, fun i j hi hj xi xj hij => ?_, fun i hi xi => ?_⟩
  · unfold qE; rw [h.1 i j hi hj (rmv_t.mp xi).1 (rmv_t.mp xj).1, h.1 i p hi hp (rmv_t.mp xi).1 xp, h.1 p j hp hj xp (rmv_t.mp xj).1]; grind
  · have a1 := h.2.1 i j hi hj (rmv_t.mp xi).1 (rmv_t.mp xj).1 hij
    have a2 := h.2.1 i p hi hp (rmv_t.mp xi).1 xp (rmv_t.mp xi).2
    have a3 := h.2.1 p j hp hj xp (rmv_t.mp xj).1 (fun e => (rmv_t.mp xj).2 e.symm)
    have a4 := q_dvn (x := S i p * S p j) (by have := Rat.mul_nonneg (a := - S i p) (b := - S p j) (by grind) (by grind); grind) (h.dg hp xp)
    unfold qE; grind
  · obtain ⟨xi, ip⟩ := rmv_t.mp xi
    have r1 := h.2.2 i hi xi
    have r2 := h.2.2 p hp xp
    rw [qs_out hp, if_pos xp] at r1 r2
    have e : qs n (fun j => if rmv X p j = true then qE S p i j else 0) = (- (S i p / S p p)) * qs n (fun j => if j = p then 0 else if X j = true then S p j else 0) + qs n (fun j => if j = p then 0 else if X j = true then S i j else 0) := by
      rw [← qs_lin]
      apply qs_congr
      intro j hj
      by_cases e1 : j = p
      · rw [if_neg (by rw [rmv_t]; exact fun h => h.2 e1), if_pos e1, if_pos e1]; grind
      · rw [if_neg e1, if_neg e1]
        by_cases e2 : X j = true
        · rw [if_pos e2, if_pos e2, if_pos (rmv_t.mpr ⟨e2, e1⟩)]; unfold qE; grind
        · rw [if_neg e2, if_neg e2, if_neg (fun h => e2 (rmv_t.mp h).1)]; grind
    rw [e]
    by_cases z : S p p = 0
    · have := h.zc hp hi xp xi z
      rw [z, q_dz]; grind
    · grind
theorem lp.dec {n p i : Nat} {X : Nat → Bool} {S : QM} (h : lp n X S) (hp : p < n) (xp : X p = true) (hi : i < n) (xi : X i = true) : qE S p i i ≤ S i i := by
  unfold qE
  rw [h.1 p i hp hi xp xi]
  have := q_dvn (x := S i p * S i p) (by
    by_cases e : 0 ≤ S i p
    · exact Rat.mul_nonneg e e
    · have := Rat.mul_nonneg (a := - S i p) (b := - S i p) (by grind) (by grind); grind) (h.dg hp xp)
  grind
