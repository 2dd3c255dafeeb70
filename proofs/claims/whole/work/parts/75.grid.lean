-- rows of a grid: a row of the array of arrays is read, a cell of it written
section GR
variable {p : Program} {l : Launch} {e : Env} {R : Room} {s : State} {m : MethodId} {args : Array Value} {below : List Frame} {meth : Method} {c : Code} {H : Heap} {locs : List Loc} {cells slots : Nat} {Q : State → Prop}
variable {cc : ByteArray} {pc : Nat} {ls : Array Slot} {rest : List Value} {D : va_G} {cl : List vw_C} {a : Nat} {tys : List (ClassId × FieldType)} {ws : va_W}
theorem va_aldr (hexec : p.tables.exec = Jvm.exec) (hb : c.code = cc) (hK : va_K D cl tys s) (hP : va_P D cl ws H) (q0 t0 : Nat) {cA : ClassId} {ty : FieldType} {n : Nat} {f : Nat → Option Nat} (ha : ws[q0]? = some (a, .inl (cA, n, .inr (.inr (.inr (.inr f)))))) (ht : tys[t0]? = some (cA, .array ty)) {i : Int32} (hin : vp_in i n) (hdg : decode cc pc = .ok (.aaload, 1))
    (kk : W p l e R s m args below meth c H locs cells slots Q (F0 m (pc + 1) ls (va_rf (f i.toNatClampNeg) :: rest))) : W p l e R s m args below meth c H locs cells slots Q (F0 m pc ls (.int i :: .ref a :: rest)) := by
  have hlt : i.toNatClampNeg < n := Nat.not_le.mp fun q => hin (Or.inr q)
  exact W.aald (v := va_rf (f i.toNatClampNeg)) (ty := .array ty) hexec hb (hP q0 _ ha) ((hK.2 t0 _ ht).1 n (fun j => va_rf (f j))) rfl (fun q => by cases q) (by show ¬ (i < 0 ∨ (arrV _ _ _).slots.size ≤ _); rw [arrV_size]; exact hin) (by show (arrV _ _ _).slots[_]? = _; rw [arrV_read _ _ hlt]) rfl rfl hdg kk
end GR
theorem go_ref {R : Nat → Nat} {b v : Nat} (hv : v < 16) : va_rf (gO R b (nI v).toNatClampNeg) = Value.ref (R (b + v)) := by
  rw [nI_clamp (by omega)]
  show va_rf (if v < 16 then some (R (b + v)) else none) = _
  rw [if_pos hv]
  rfl
theorem all16 {P : Nat → Prop} (h : P 0 ∧ P 1 ∧ P 2 ∧ P 3 ∧ P 4 ∧ P 5 ∧ P 6 ∧ P 7 ∧ P 8 ∧ P 9 ∧ P 10 ∧ P 11 ∧ P 12 ∧ P 13 ∧ P 14 ∧ P 15) : ∀ v, v < 16 → P v := by
  intro v hv
  obtain ⟨h0, h1, h2, h3, h4, h5, h6, h7, h8, h9, h10, h11, h12, h13, h14, h15⟩ := h
  have : v = 0 ∨ v = 1 ∨ v = 2 ∨ v = 3 ∨ v = 4 ∨ v = 5 ∨ v = 6 ∨ v = 7 ∨ v = 8 ∨ v = 9 ∨ v = 10 ∨ v = 11 ∨ v = 12 ∨ v = 13 ∨ v = 14 ∨ v = 15 := by omega
  rcases this with q | q | q | q | q | q | q | q | q | q | q | q | q | q | q | q <;> subst q <;> assumption
theorem hw_T {cI cJ cII cJJ : ClassId} {R : Nat → Nat} {u : sgH} {v : Nat} (hv : v < 16) : (HW cI cJ cII cJJ R u)[23 + v]? = some (R (100 + v), aJ cJ 16 (u.2.2.2.2 v)) :=
  all16 (P := fun v => (HW cI cJ cII cJJ R u)[23 + v]? = some (R (100 + v), aJ cJ 16 (u.2.2.2.2 v))) ⟨rfl, rfl, rfl, rfl, rfl, rfl, rfl, rfl, rfl, rfl, rfl, rfl, rfl, rfl, rfl, rfl⟩ v hv
theorem hw_C {cI cJ cII cJJ : ClassId} {R : Nat → Nat} {u : sgH} {v : Nat} (hv : v < 16) : (HW cI cJ cII cJJ R u)[39 + v]? = some (R (200 + v), aI cI 16 (u.2.2.2.1 v)) :=
  all16 (P := fun v => (HW cI cJ cII cJJ R u)[39 + v]? = some (R (200 + v), aI cI 16 (u.2.2.2.1 v))) ⟨rfl, rfl, rfl, rfl, rfl, rfl, rfl, rfl, rfl, rfl, rfl, rfl, rfl, rfl, rfl, rfl⟩ v hv
theorem hw_Tset {cI cJ cII cJJ : ClassId} {R : Nat → Nat} {I : Nat → Int32} {A : Nat → Nat → Int32} {B : Nat → Nat → Int64} {C : Nat → Nat → Int32} {T : Nat → Nat → Int64} {f : Nat → Int64} {v : Nat} (hv : v < 16) : (HW cI cJ cII cJJ R (I, A, B, C, T)).set (23 + v) (R (100 + v), aJ cJ 16 f) = HW cI cJ cII cJJ R (I, A, B, C, va_up T v f) :=
  all16 (P := fun v => (HW cI cJ cII cJJ R (I, A, B, C, T)).set (23 + v) (R (100 + v), aJ cJ 16 f) = HW cI cJ cII cJJ R (I, A, B, C, va_up T v f)) ⟨rfl, rfl, rfl, rfl, rfl, rfl, rfl, rfl, rfl, rfl, rfl, rfl, rfl, rfl, rfl, rfl⟩ v hv
theorem hw_Cset {cI cJ cII cJJ : ClassId} {R : Nat → Nat} {I : Nat → Int32} {A : Nat → Nat → Int32} {B : Nat → Nat → Int64} {C : Nat → Nat → Int32} {T : Nat → Nat → Int64} {f : Nat → Int32} {v : Nat} (hv : v < 16) : (HW cI cJ cII cJJ R (I, A, B, C, T)).set (39 + v) (R (200 + v), aI cI 16 f) = HW cI cJ cII cJJ R (I, A, B, va_up C v f, T) :=
  all16 (P := fun v => (HW cI cJ cII cJJ R (I, A, B, C, T)).set (39 + v) (R (200 + v), aI cI 16 f) = HW cI cJ cII cJJ R (I, A, B, va_up C v f, T)) ⟨rfl, rfl, rfl, rfl, rfl, rfl, rfl, rfl, rfl, rfl, rfl, rfl, rfl, rfl, rfl, rfl⟩ v hv
