-- the table of the groups; closed sets
def l1 (a b i j : Nat) : Int := if i = j then (if i = a ∨ i = b then 1 else 0) else if (i = a ∧ j = b) ∨ (i = b ∧ j = a) then -1 else 0
def lgI (fr to : Nat → Nat) (q : JS) : Nat → Nat → Nat → Int
  | 0 => fun _ _ => 0
  | e + 1 => if q.1 (fr e) = q.1 (to e) then lgI fr to q e else fun i j => lgI fr to q e i j + l1 (q.1 (fr e)) (q.1 (to e)) i j
theorem lgI_s {fr to : Nat → Nat} {q : JS} {e : Nat} (h : q.1 (fr e) = q.1 (to e)) : lgI fr to q (e + 1) = lgI fr to q e := by simp only [lgI]; rw [if_pos h]
theorem lgI_d {fr to : Nat → Nat} {q : JS} {e : Nat} (h : ¬ q.1 (fr e) = q.1 (to e)) : lgI fr to q (e + 1) = fun i j => lgI fr to q e i j + l1 (q.1 (fr e)) (q.1 (to e)) i j := by simp only [lgI]; rw [if_neg h]
theorem l1_sym (a b i j : Nat) : l1 a b i j = l1 a b j i := by unfold l1; grind
theorem l1_off {a b i j : Nat} (h : i ≠ j) : l1 a b i j ≤ 0 := by unfold l1; rw [if_neg h]; split <;> omega
theorem lgI_sym {fr to : Nat → Nat} {q : JS} : ∀ e i j, lgI fr to q e i j = lgI fr to q e j i
  | 0, _, _ => rfl
  | e + 1, i, j => by
    by_cases h : q.1 (fr e) = q.1 (to e)
    · rw [lgI_s h]; exact lgI_sym e i j
    · rw [lgI_d h]; show _ + _ = _ + _; rw [lgI_sym e i j, l1_sym]
theorem lgI_off {fr to : Nat → Nat} {q : JS} : ∀ e i j, i ≠ j → lgI fr to q e i j ≤ 0
  | 0, _, _, _ => Int.le_refl _
  | e + 1, i, j, hij => by
    have ih := lgI_off (fr := fr) (to := to) (q := q) e i j hij
    by_cases h : q.1 (fr e) = q.1 (to e)
    · rw [lgI_s h]; exact ih
    · rw [lgI_d h]; have := l1_off (a := q.1 (fr e)) (b := q.1 (to e)) hij; show _ + _ ≤ _; omega
theorem l1_row {a b n i : Nat} (ha : a < n) (hb : b < n) (hab : a ≠ b) : qs n (fun j => ((l1 a b i j : Int) : Rat)) = 0 := by
  by_cases h1 : i = a
  · rw [qs_out ha, qs_out hb, qs_zero (fun j _ => ?_)]
    · rw [if_neg (fun e => hab e.symm), show l1 a b i a = 1 by unfold l1; rw [if_pos h1, if_pos (.inl h1)], show l1 a b i b = -1 by unfold l1; rw [if_neg (by omega), if_pos (.inl ⟨h1, rfl⟩)], show ((1 : Int) : Rat) = 1 from rfl, show ((-1 : Int) : Rat) = -1 from rfl]; grind
    · show (if j = b then (0 : Rat) else if j = a then 0 else ((l1 a b i j : Int) : Rat)) = 0
      split; rfl
      split; rfl
      rw [show l1 a b i j = 0 by unfold l1; rw [if_neg (by omega), if_neg (by omega)]]; rfl
  · by_cases h2 : i = b
    · rw [qs_out ha, qs_out hb, qs_zero (fun j _ => ?_)]
      · rw [if_neg (fun e => hab e.symm), show l1 a b i a = -1 by unfold l1; rw [if_neg (by omega), if_pos (.inr ⟨h2, rfl⟩)], show l1 a b i b = 1 by unfold l1; rw [if_pos h2, if_pos (.inr h2)], show ((1 : Int) : Rat) = 1 from rfl, show ((-1 : Int) : Rat) = -1 from rfl]; grind
      · show (if j = b then (0 : Rat) else if j = a then 0 else ((l1 a b i j : Int) : Rat)) = 0
        split; rfl
        split; rfl
        rw [show l1 a b i j = 0 by unfold l1; rw [if_neg (by omega), if_neg (by omega)]]; rfl
    · apply qs_zero
      intro j _
      rw [show l1 a b i j = 0 by unfold l1; split <;> rw [if_neg (by omega)]]; rfl
theorem lgI_row {fr to : Nat → Nat} {q : JS} {n i : Nat} : ∀ e, (∀ k, k < e → q.1 (fr k) < n ∧ q.1 (to k) < n) → qs n (fun j => ((lgI fr to q e i j : Int) : Rat)) = 0
  | 0, _ => qs_zero (fun _ _ => rfl)
  | e + 1, hk => by
    have ih := lgI_row (i := i) e (fun k h => hk k (by omega))
    by_cases h : q.1 (fr e) = q.1 (to e)
    · rw [lgI_s h]; exact ih
    · rw [lgI_d h, qs_congr (g := fun j => 1 * ((lgI fr to q e i j : Int) : Rat) + ((l1 (q.1 (fr e)) (q.1 (to e)) i j : Int) : Rat)) (fun j _ => by rw [Rat.intCast_add, Rat.one_mul]), qs_lin, ih, l1_row (hk e (by omega)).1 (hk e (by omega)).2 h]; grind
def dgI (fr to : Nat → Nat) (q : JS) : Nat → Nat → Nat
  | 0 => fun _ => 0
  | e + 1 => if q.1 (fr e) = q.1 (to e) then dgI fr to q e else fun i => dgI fr to q e i + (if i = q.1 (fr e) ∨ i = q.1 (to e) then 1 else 0)
theorem lgI_dg {fr to : Nat → Nat} {q : JS} : ∀ e i, lgI fr to q e i i = (dgI fr to q e i : Int)
  | 0, _ => rfl
  | e + 1, i => by
    have ih := lgI_dg (fr := fr) (to := to) (q := q) e i
    simp only [dgI]
    by_cases h : q.1 (fr e) = q.1 (to e)
    · rw [lgI_s h, if_pos h]; exact ih
    · rw [lgI_d h, if_neg h]; show _ + _ = _; rw [ih]; unfold l1; rw [if_pos rfl]; split <;> rfl
theorem sN_add {n : Nat} {f g : Nat → Nat} : sN n (fun i => f i + g i) = sN n f + sN n g := by
  induction n with
  | zero => rfl
  | succ n ih => simp only [sN]; rw [ih]; omega
theorem sN_mono {n : Nat} {f g : Nat → Nat} (h : ∀ i, f i ≤ g i) : sN n f ≤ sN n g := by
  induction n with
  | zero => exact Nat.le_refl _
  | succ n ih => simp only [sN]; have := h n; omega
theorem sN_eq1 {n a : Nat} : sN n (fun i => if i = a then 1 else 0) ≤ 1 := by
  have : ∀ n, (a < n → sN n (fun i => if i = a then 1 else 0) ≤ 1) ∧ (n ≤ a → sN n (fun i => if i = a then 1 else 0) = 0) := by
    intro n; induction n with
    | zero => exact ⟨fun h => by omega, fun _ => rfl⟩
    | succ n ih =>
      simp only [sN]
      refine ⟨fun h => ?_, fun h => ?_⟩
      · by_cases e : n = a
        · rw [if_pos e, ih.2 (by omega)]; omega
        · rw [if_neg e]; have := ih.1 (by omega); omega
      · rw [if_neg (by omega), ih.2 (by omega)]
  rcases Nat.lt_or_ge a n with h | h
  · exact (this n).1 h
  · rw [(this n).2 h]; omega
theorem dgI_sum {fr to : Nat → Nat} {q : JS} {n : Nat} : ∀ e, sN n (dgI fr to q e) ≤ 2 * e
  | 0 => by
    have : ∀ n, sN n (fun _ => 0) = 0 := by intro n; induction n with
      | zero => rfl
      | succ n ih => simp only [sN]; rw [ih]
    show sN n (fun _ => 0) ≤ _; rw [this]; omega
  | e + 1 => by
    have ih := dgI_sum (fr := fr) (to := to) (q := q) (n := n) e
    simp only [dgI]
    split
    · omega
    · rw [sN_add]
      have h1 := sN_mono (n := n) (f := fun i => if i = q.1 (fr e) ∨ i = q.1 (to e) then 1 else 0) (g := fun i => (if i = q.1 (fr e) then 1 else 0) + (if i = q.1 (to e) then 1 else 0)) (fun i => by grind)
      rw [sN_add] at h1
      have h2 := sN_eq1 (n := n) (a := q.1 (fr e))
      have h3 := sN_eq1 (n := n) (a := q.1 (to e))
      omega
theorem lgI_edge {fr to : Nat → Nat} {q : JS} {e : Nat} (h : q.1 (fr e) ≠ q.1 (to e)) : ∀ m, e < m → lgI fr to q m (q.1 (fr e)) (q.1 (to e)) < 0
  | 0, h0 => absurd h0 (Nat.not_lt_zero _)
  | m + 1, h0 => by
    by_cases he : e = m
    · subst he
      rw [lgI_d h]
      have h1 := lgI_off (fr := fr) (to := to) (q := q) e _ _ h
      show _ + l1 _ _ _ _ < _
      rw [show l1 (q.1 (fr e)) (q.1 (to e)) (q.1 (fr e)) (q.1 (to e)) = -1 by unfold l1; rw [if_neg h, if_pos (.inl ⟨rfl, rfl⟩)]]; omega
    · have ih := lgI_edge h m (by omega)
      by_cases hh : q.1 (fr m) = q.1 (to m)
      · rw [lgI_s hh]; exact ih
      · rw [lgI_d hh]; have := l1_off (a := q.1 (fr m)) (b := q.1 (to m)) h; show _ + _ < _; omega
theorem lgI_zero {fr to : Nat → Nat} {q : JS} {i j : Nat} (hij : i ≠ j) : ∀ m, (∀ e, e < m → ¬ (q.1 (fr e) = i ∧ q.1 (to e) = j) ∧ ¬ (q.1 (fr e) = j ∧ q.1 (to e) = i)) → lgI fr to q m i j = 0
  | 0, _ => rfl
  | m + 1, h => by
    have ih := lgI_zero hij m (fun e he => h e (by omega))
    by_cases hh : q.1 (fr m) = q.1 (to m)
    · rw [lgI_s hh]; exact ih
    · rw [lgI_d hh]; show _ + l1 _ _ _ _ = _
      have := h m (by omega)
      rw [ih, show l1 (q.1 (fr m)) (q.1 (to m)) i j = 0 by unfold l1; rw [if_neg hij, if_neg (by grind)]]; rfl
theorem lgI_lp {fr to : Nat → Nat} {q : JS} {n m : Nat} (hk : ∀ k, k < m → q.1 (fr k) < n ∧ q.1 (to k) < n) : lp n (fun _ => true) (qq (lgI fr to q m)) :=
  ⟨fun i j _ _ _ _ => by show ((_ : Int) : Rat) = ((_ : Int) : Rat); rw [lgI_sym], fun i j _ _ _ _ h => by
    have := lgI_off (fr := fr) (to := to) (q := q) m i j h
    exact Rat.intCast_le_intCast.mpr this, fun i _ _ => by
    rw [qs_congr (g := fun j => ((lgI fr to q m i j : Int) : Rat)) (fun j _ => if_pos rfl)]; exact lgI_row m hk⟩
/-- nothing between the inside and the outside -/
def clo (n : Nat) (X : Nat → Bool) (S : QM) (Y : Nat → Bool) : Prop := ∀ i j, i < n → j < n → X i = true → X j = true → Y i = true → Y j = false → S i j = 0
theorem clo.el {n p : Nat} {X Y : Nat → Bool} {S : QM} (h : clo n X S Y) (hp : p < n) (xp : X p = true) : clo n (rmv X p) (qE S p) Y := by
  intro i j hi hj xi xj yi yj
  unfold qE
  rw [h i j hi hj (rmv_t.mp xi).1 (rmv_t.mp xj).1 yi yj]
  cases hy : Y p with
  | true => rw [h p j hp hj xp (rmv_t.mp xj).1 hy yj]; grind
  | false => rw [h i p hi hp (rmv_t.mp xi).1 xp yi hy]; grind
theorem clo.els {n : Nat} {Y : Nat → Bool} : ∀ {L : List Nat} {X : Nat → Bool} {S : QM}, clo n X S Y → okL n X L → clo n (rmvs X L) (qEs S L) Y := by
  intro L; induction L with
  | nil => intro X S h _; exact h
  | cons p L ih => intro X S h hl; exact ih (h.el hl.1 hl.2.1) hl.2.2
theorem clo.up {n p : Nat} {X Y : Nat → Bool} {S : QM} (hs : lp n X S) (hp : p < n) (xp : X p = true) (h : clo n (rmv X p) (qE S p) Y) : ∃ Y0, clo n X S Y0 ∧ ∀ i, i ≠ p → Y0 i = Y i := by
  have two : ∀ i j, i < n → j < n → X i = true → X j = true → i ≠ p → j ≠ p → Y i = true → Y j = false → S i j = 0 ∧ (S p p ≠ 0 → S i p = 0 ∨ S p j = 0) := by
    intro i j hi hj xi xj ip jp yi yj
    have h0 := h i j hi hj (rmv_t.mpr ⟨xi, ip⟩) (rmv_t.mpr ⟨xj, jp⟩) yi yj
    have hij : i ≠ j := fun e => by rw [e, yj] at yi; cases yi
    have a1 := hs.2.1 i j hi hj xi xj hij
    have a2 := hs.2.1 i p hi hp xi xp ip
    have a3 := hs.2.1 p j hp hj xp xj (fun e => jp e.symm)
    have a4 := q_dvn (x := S i p * S p j) (by have := Rat.mul_nonneg (a := - S i p) (b := - S p j) (by grind) (by grind); grind) (hs.dg hp xp)
    unfold qE at h0
    refine ⟨by grind, fun hz => ?_⟩
    have : S i p * S p j / S p p = 0 := by grind
    have h5 : S i p * S p j = 0 := by grind
    exact Rat.mul_eq_zero.mp h5
  by_cases hz : S p p = 0
  · refine ⟨Y, fun i j hi hj xi xj yi yj => ?_, fun _ _ => rfl⟩
    by_cases ip : i = p
    · rw [ip]; exact hs.zr hp hj xp xj hz
    · by_cases jp : j = p
      · rw [jp]; exact hs.zc hp hi xp xi hz
      · exact (two i j hi hj xi xj ip jp yi yj).1
  · by_cases hc : ∃ i, i < n ∧ X i = true ∧ i ≠ p ∧ Y i = true ∧ S i p ≠ 0
    · obtain ⟨i0, h1, h2, h3, h4, h5⟩ := hc
      refine ⟨fun i => if i = p then true else Y i, fun i j hi hj xi xj yi yj => ?_, fun i hi => if_neg hi⟩
      have yi : (if i = p then true else Y i) = true := yi
      have yj : (if j = p then true else Y j) = false := yj
      have jp : j ≠ p := fun e => by rw [if_pos e] at yj; cases yj
      rw [if_neg jp] at yj
      by_cases ip : i = p
      · rw [ip]; exact ((two i0 j h1 hj h2 xj h3 jp h4 yj).2 hz).resolve_left h5
      · rw [if_neg ip] at yi; exact (two i j hi hj xi xj ip jp yi yj).1
    · refine ⟨fun i => if i = p then false else Y i, fun i j hi hj xi xj yi yj => ?_, fun i hi => if_neg hi⟩
      have yi : (if i = p then false else Y i) = true := yi
      have yj : (if j = p then false else Y j) = false := yj
      have ip : i ≠ p := fun e => by rw [if_pos e] at yi; cases yi
      rw [if_neg ip] at yi
      by_cases jp : j = p
      · rw [jp]; exact Classical.byContradiction (fun e => hc ⟨i, hi, xi, ip, yi, e⟩)
      · rw [if_neg jp] at yj; exact (two i j hi hj xi xj ip jp yi yj).1
theorem clo.ups {n : Nat} {Y : Nat → Bool} : ∀ {L : List Nat} {X : Nat → Bool} {S : QM}, lp n X S → okL n X L → clo n (rmvs X L) (qEs S L) Y → ∃ Y0, clo n X S Y0 ∧ ∀ i, i ∉ L → Y0 i = Y i := by
  intro L; induction L with
  | nil => intro X S _ _ h; exact ⟨Y, h, fun _ _ => rfl⟩
  | cons p L ih =>
    intro X S hs hl h
    obtain ⟨Y1, a, b⟩ := ih (hs.el hl.1 hl.2.1) hl.2.2 h
    obtain ⟨Y0, c, d⟩ := clo.up hs hl.1 hl.2.1 a
    exact ⟨Y0, c, fun i hi => by rw [d i (fun e => hi (by rw [e]; exact List.mem_cons_self)), b i (fun e => hi (List.mem_cons_of_mem _ e))]⟩
