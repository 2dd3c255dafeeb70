-- the order of the elimination does not matter
def okL (n : Nat) : (Nat → Bool) → List Nat → Prop
  | _, [] => True
  | X, p :: L => p < n ∧ X p = true ∧ okL n (rmv X p) L
def rmvs : (Nat → Bool) → List Nat → (Nat → Bool)
  | X, [] => X
  | X, p :: L => rmvs (rmv X p) L
theorem rmv_comm (X : Nat → Bool) (p q : Nat) : rmv (rmv X p) q = rmv (rmv X q) p := by
  funext i; unfold rmv; cases X i <;> simp [Bool.and_comm]
def agr (n : Nat) (X : Nat → Bool) (S S' : QM) : Prop := ∀ i j, i < n → j < n → X i = true → X j = true → S i j = S' i j
theorem agr.el {n p : Nat} {X : Nat → Bool} {S S' : QM} (h : agr n X S S') (hp : p < n) (xp : X p = true) : agr n (rmv X p) (qE S p) (qE S' p) := by
  intro i j hi hj xi xj
  unfold qE
  rw [h i j hi hj (rmv_t.mp xi).1 (rmv_t.mp xj).1, h i p hi hp (rmv_t.mp xi).1 xp, h p j hp hj xp (rmv_t.mp xj).1, h p p hp hp xp xp]
theorem agr.all {n : Nat} : ∀ {L : List Nat} {X : Nat → Bool} {S S' : QM}, agr n X S S' → okL n X L → qP S L = qP S' L ∧ agr n (rmvs X L) (qEs S L) (qEs S' L) := by
  intro L; induction L with
  | nil => intro X S S' h _; exact ⟨rfl, h⟩
  | cons p L ih =>
    intro X S S' h hl
    obtain ⟨a, b⟩ := ih (h.el hl.1 hl.2.1) hl.2.2
    refine ⟨?_, b⟩
    show _ * qP (qE S p) L = _ * qP (qE S' p) L
    rw [a, h p p hl.1 hl.1 hl.2.1 hl.2.1]
theorem lp.swap {n p q : Nat} {X : Nat → Bool} {S : QM} (h : lp n X S) (hp : p < n) (hq : q < n) (xp : X p = true) (xq : X q = true) (hpq : p ≠ q) :
    agr n (rmv (rmv X p) q) (qE (qE S p) q) (qE (qE S q) p) ∧ (if S p p = 0 then 1 else S p p) * (if qE S p q q = 0 then 1 else qE S p q q) = (if S q q = 0 then 1 else S q q) * (if qE S q p p = 0 then 1 else qE S q p p) := by
  have hc := h.1 q p hq hp xq xp
  by_cases zp : S p p = 0
  · rw [qE_z zp]
    have hr := h.zr hp hq xp xq zp
    have e : qE S q p p = 0 := by unfold qE; rw [hr, zp, hc, hr]; grind
    refine ⟨fun i j hi hj xi xj => ?_, by rw [if_pos zp, if_pos e]; grind⟩
    rw [qE_z e]
  · by_cases zq : S q q = 0
    · rw [qE_z zq]
      have hr := h.zr hq hp xq xp zq
      have e : qE S p q q = 0 := by unfold qE; rw [hr, zq, ← hc, hr]; grind
      refine ⟨fun i j hi hj xi xj => ?_, by rw [if_pos zq, if_pos e]; grind⟩
      rw [qE_z e]
    · have ep : qE S p q q = S q q - S p q * S p q / S p p := by unfold qE; rw [hc]
      have eq : qE S q p p = S p p - S p q * S p q / S q q := by unfold qE; rw [hc]
      by_cases z : S p p * S q q = S p q * S p q
      · have e1 : qE S p q q = 0 := by rw [ep, ← z]; grind
        have e2 : qE S q p p = 0 := by rw [eq, ← z]; grind
        rw [qE_z e1, qE_z e2, if_pos e1, if_pos e2, if_neg zp, if_neg zq]
        have a1 := h.two hp hq xp xq hpq
        have a2 := h.two hq hp xq xp (fun e => hpq e.symm)
        have a3 := h.2.1 p q hp hq xp xq hpq
        have a4 := h.dg hp xp
        have a5 := h.dg hq xq
        rw [hc] at a2
        -- both are - S p q
        have b1 : S p p = - S p q := by
          by_cases lt : S p p ≤ - S p q
          · grind
          · have m1 := Rat.mul_lt_mul_of_pos_right (a := - S p q) (b := S p p) (c := S q q) (by grind) (by grind)
            have m2 := Rat.mul_le_mul_of_nonneg_left (a := - S p q) (b := S q q) (c := - S p q) (by grind) (by grind)
            grind
        have b2 : S q q = - S p q := by
          have : S p q ≠ 0 := fun e => zp (by rw [b1, e]; grind)
          grind
        refine ⟨fun i j hi hj xi xj => ?_, by grind⟩
        obtain ⟨xi', iq⟩ := rmv_t.mp xi
        obtain ⟨xi', ip⟩ := rmv_t.mp xi'
        obtain ⟨xj', jq⟩ := rmv_t.mp xj
        obtain ⟨xj', jp⟩ := rmv_t.mp xj'
        have c1 := h.three hp hq hi xp xq xi' hpq (fun e => ip e.symm) (fun e => iq e.symm)
        have c2 := h.2.1 p i hp hi xp xi' (fun e => ip e.symm)
        have c3 := h.three hq hp hi xq xp xi' (fun e => hpq e.symm) (fun e => iq e.symm) (fun e => ip e.symm)
        have c4 := h.2.1 q i hq hi xq xi' (fun e => iq e.symm)
        have d1 : S i p = 0 := by rw [h.1 i p hi hp xi' xp]; grind
        have d2 : S i q = 0 := by rw [h.1 i q hi hq xi' xq]; grind
        unfold qE; rw [d1, d2]; grind
      · have e1 : qE S p q q ≠ 0 := by rw [ep]; intro e; apply z; grind
        have e2 : qE S q p p ≠ 0 := by rw [eq]; intro e; apply z; grind
        rw [if_neg e1, if_neg e2, if_neg zp, if_neg zq]
        refine ⟨fun i j hi hj xi xj => ?_, by rw [ep, eq]; grind⟩
        show qE S p i j - qE S p i q * qE S p q j / qE S p q q = qE S q i j - qE S q i p * qE S q p j / qE S q p p
        rw [ep] at e1
        rw [eq] at e2
        rw [ep, eq]
        unfold qE
        rw [hc]
        generalize S p p = a at *
        generalize S q q = b at *
        generalize S p q = c at *
        have hD : a * b - c * c ≠ 0 := by grind
        have i1 : ∀ y, y / (b - c * c / a) = y * a / (a * b - c * c) := by intro y; grind
        have i2 : ∀ y, y / (a - c * c / b) = y * b / (a * b - c * c) := by intro y; grind
        rw [i1, i2]
        grind
theorem okL.sw {n p q : Nat} {X : Nat → Bool} {L : List Nat} (h : okL n X (p :: q :: L)) : okL n X (q :: p :: L) := by
  obtain ⟨h1, h2, h3, h4, h5⟩ := h
  have := rmv_t.mp h4
  exact ⟨h3, this.1, h1, rmv_t.mpr ⟨h2, fun e => this.2 e.symm⟩, by rw [rmv_comm]; exact h5⟩
theorem qP_perm {n : Nat} {L K : List Nat} (hp : L.Perm K) : ∀ (X : Nat → Bool), okL n X L → okL n X K ∧ rmvs X L = rmvs X K ∧ ∀ S, lp n X S → qP S L = qP S K ∧ agr n (rmvs X L) (qEs S L) (qEs S K) := by
  induction hp with
  | nil => intro X _; exact ⟨trivial, rfl, fun S _ => ⟨rfl, fun _ _ _ _ _ _ => rfl⟩⟩
  | @cons x l1 l2 _ ih =>
    intro X h
    obtain ⟨a, b, c⟩ := ih _ h.2.2
    refine ⟨⟨h.1, h.2.1, a⟩, b, fun S hS => ?_⟩
    obtain ⟨d, e⟩ := c (qE S x) (hS.el h.1 h.2.1)
    exact ⟨by show _ * qP (qE S x) l1 = _ * qP (qE S x) l2; rw [d], e⟩
  | swap x y l =>
    intro X h
    refine ⟨h.sw, by show rmvs (rmv (rmv X y) x) l = rmvs (rmv (rmv X x) y) l; rw [rmv_comm], fun S hS => ?_⟩
    obtain ⟨h1, h2, h3, h4, h5⟩ := h
    obtain ⟨a, b⟩ := hS.swap h1 h3 h2 (rmv_t.mp h4).1 (fun e => (rmv_t.mp h4).2 e.symm)
    obtain ⟨c, d⟩ := a.all h5
    refine ⟨?_, d⟩
    show _ * (_ * qP (qE (qE S y) x) l) = _ * (_ * qP (qE (qE S x) y) l)
    rw [c, ← Rat.mul_assoc, ← Rat.mul_assoc, b]
  | trans _ _ i1 i2 =>
    intro X h
    obtain ⟨a, b, c⟩ := i1 X h
    obtain ⟨a2, b2, c2⟩ := i2 X a
    refine ⟨a2, b.trans b2, fun S hS => ⟨(c S hS).1.trans (c2 S hS).1, fun i j hi hj xi xj => ((c S hS).2 i j hi hj xi xj).trans ((c2 S hS).2 i j hi hj (by rw [← b]; exact xi) (by rw [← b]; exact xj))⟩⟩
/-- what is multiplied is whole -/
theorem qT_det : ∀ (L : List Nat) (M : QM), ∃ K : List Nat, (∀ k, k ∈ K → k ∈ L) ∧ ∀ i j, qd (K.length + 1) (fun a b => M ((K ++ [i]).getD a 0) ((K ++ [j]).getD b 0)) = qP M L * qEs M L i j := by
  intro L; induction L with
  | nil => intro M; exact ⟨[], fun k hk => hk, fun i j => by simp [qd, qs, qP, qEs, sg]; grind⟩
  | cons p L ih =>
    intro M
    obtain ⟨K, hK, h⟩ := ih (qE M p)
    by_cases z : M p p = 0
    · refine ⟨K, fun k hk => List.mem_cons_of_mem _ (hK k hk), fun i j => ?_⟩
      rw [qE_z z] at h
      rw [h i j]
      show qP M L * qEs M L i j = (if M p p = 0 then 1 else M p p) * qP (qE M p) L * qEs (qE M p) L i j
      rw [if_pos z, qE_z z]; grind
    · refine ⟨p :: K, fun k hk => by
        rcases List.mem_cons.mp hk with q | q
        · rw [q]; exact List.mem_cons_self
        · exact List.mem_cons_of_mem _ (hK k q), fun i j => ?_⟩
      show qd (K.length + 1 + 1) _ = (if M p p = 0 then 1 else M p p) * qP (qE M p) L * qEs (qE M p) L i j
      rw [if_neg z, Rat.mul_assoc, ← h i j, qd_schur (by simpa using z)]
      rfl
theorem qT_I {L : List Nat} {M : QM} (h : ∀ a b, qI (M a b)) (i j : Nat) : qI (qP M L * qEs M L i j) := by
  obtain ⟨K, _, h2⟩ := qT_det L M
  rw [← h2]; exact qd_I (fun a b => h _ _)
