-- the table of the groups that are not the first of their piece
noncomputable def plc (fr to : Nat → Nat) (ne : Nat) (q : JS) : Nat → Nat × (Nat → Option Nat)
  | 0 => (0, fun _ => none)
  | v + 1 => @ite _ (q.1 v = v ∧ fsP fr to ne q v v) (Classical.propDecidable _) ((plc fr to ne q v).1 + 1, va_up (plc fr to ne q v).2 v (some (plc fr to ne q v).1)) (plc fr to ne q v)
theorem plc_y {fr to : Nat → Nat} {ne v : Nat} {q : JS} (h : q.1 v = v ∧ fsP fr to ne q v v) : plc fr to ne q (v + 1) = ((plc fr to ne q v).1 + 1, va_up (plc fr to ne q v).2 v (some (plc fr to ne q v).1)) := by simp only [plc]; rw [if_pos h]
theorem plc_n {fr to : Nat → Nat} {ne v : Nat} {q : JS} (h : ¬ (q.1 v = v ∧ fsP fr to ne q v v)) : plc fr to ne q (v + 1) = plc fr to ne q v := by simp only [plc]; rw [if_neg h]
theorem plc_le (fr to : Nat → Nat) (ne : Nat) (q : JS) : ∀ v, (plc fr to ne q v).1 ≤ v
  | 0 => Nat.le_refl _
  | v + 1 => by
    have := plc_le fr to ne q v
    by_cases h : q.1 v = v ∧ fsP fr to ne q v v
    · rw [plc_y h]; show (plc fr to ne q v).1 + 1 ≤ v + 1; omega
    · rw [plc_n h]; omega
theorem plc_hi (fr to : Nat → Nat) (ne : Nat) (q : JS) : ∀ v w, v ≤ w → (plc fr to ne q v).2 w = none
  | 0, w, _ => rfl
  | v + 1, w, hw => by
    by_cases h : q.1 v = v ∧ fsP fr to ne q v v
    · rw [plc_y h]; show va_up (plc fr to ne q v).2 v (some (plc fr to ne q v).1) w = none; rw [up_ne (by omega)]; exact plc_hi fr to ne q v w (by omega)
    · rw [plc_n h]; exact plc_hi fr to ne q v w (by omega)
theorem plc_lt (fr to : Nat → Nat) (ne : Nat) (q : JS) : ∀ v w a, (plc fr to ne q v).2 w = some a → a < v
  | 0, w, a, h => by cases h
  | v + 1, w, a, h => by
    by_cases hh : q.1 v = v ∧ fsP fr to ne q v v
    · rw [plc_y hh] at h
      have h : va_up (plc fr to ne q v).2 v (some (plc fr to ne q v).1) w = some a := h
      by_cases e : w = v
      · rw [e, up_self] at h; cases h; have := plc_le fr to ne q v; omega
      · rw [up_ne e] at h; have := plc_lt fr to ne q v w a h; omega
    · rw [plc_n hh] at h; have := plc_lt fr to ne q v w a h; omega
noncomputable def lapM (fr to : Nat → Nat) (ne nv : Nat) (q : JS) : Nat → Nat → Nat → Int
  | 0 => fun _ _ => 0
  | e + 1 => if q.1 (fr e) = q.1 (to e) then lapM fr to ne nv q e else layM ((plc fr to ne q nv).2 (q.1 (fr e))) ((plc fr to ne q nv).2 (q.1 (to e))) (lapM fr to ne nv q e)
theorem lapM_s {fr to : Nat → Nat} {ne nv e : Nat} {q : JS} (h : q.1 (fr e) = q.1 (to e)) : lapM fr to ne nv q (e + 1) = lapM fr to ne nv q e := by simp only [lapM]; rw [if_pos h]
theorem lapM_d {fr to : Nat → Nat} {ne nv e : Nat} {q : JS} (h : ¬ q.1 (fr e) = q.1 (to e)) : lapM fr to ne nv q (e + 1) = layM ((plc fr to ne q nv).2 (q.1 (fr e))) ((plc fr to ne q nv).2 (q.1 (to e))) (lapM fr to ne nv q e) := by simp only [lapM]; rw [if_neg h]
