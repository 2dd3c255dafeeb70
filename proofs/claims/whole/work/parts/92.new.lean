-- constructors: from the object alone to it and its arrays
def aoOK (U : State) : Prop := va_AOA .int U ∧ va_AOA .long U
theorem aoOK.moved {s U : State} (h : s.vm.Alike U.vm) (k : aoOK s) : aoOK U := ⟨Jvm.Stand.arrayOver_alikeB h k.1, Jvm.Stand.arrayOver_alikeB h k.2⟩
def cnP (G : va_G) (tys : List (ClassId × FieldType)) (w0 : va_W) (h0 sz : Nat) : Array Value → State → Prop := va_Pc [.ref h0] (fun U => U.heap.size = sz ∧ va_P G vwCl w0 U.heap ∧ va_K G vwCl tys U ∧ va_D (fun _ => True) w0 ∧ aoOK U)
abbrev cnR (rm : Nat × Nat) (mc ms : Nat) : Room := { frames := rm.1, cells := mc, slots := ms, locals := rm.2 }
def cnB (G : va_G) (tys : List (ClassId × FieldType)) (w1 : (Nat → Nat) → va_W) (A : Nat → Prop) (u : Nat → Nat) (t : State) : Prop := va_P G vwCl (w1 u) t.heap ∧ va_K G vwCl tys t ∧ va_D A (w1 u)
def cnw (l : Launch) (G : va_G) (tys : List (ClassId × FieldType)) (y : MethodName) (ws : List Cond) (rm : Nat × Nat) (mc ms : Nat) (e0 : va_E) (w1 : Nat → (Nat → Nat) → va_W) : Prop :=
  ∀ h0 sz : Nat, Met l y ws (cnR rm mc ms) (cnP G tys [(h0, e0)] h0 sz) (va_Qv (fun _ : Nat → Nat => True) (cnB G tys (w1 h0) (va_A [(h0, e0)] sz)) (va_A [(h0, e0)] sz)) mc ms (va_A [(h0, e0)] sz)
theorem cn_blind {G : va_G} {tys : List (ClassId × FieldType)} {w0 : va_W} {h0 sz : Nat} : FrameBlind (cnP G tys w0 h0 sz) := by
  intro a U g mk q
  obtain ⟨q0, q1, qP, qK, qD, qN⟩ := q
  exact ⟨q0, q1, qP, va_K.moved (u := U) (U := U.calling g mk a) (Vm.Alike.refl U.vm) qK, qD, aoOK.moved (s := U) (U := U.calling g mk a) (Vm.Alike.refl U.vm) qN⟩
theorem cn_intro {l : Launch} {G : va_G} {tys : List (ClassId × FieldType)} {y : MethodName} {ws ws' : List Cond} {rm : Nat × Nat} {mc ms : Nat} {e0 : va_E} {w1 : Nat → (Nat → Nat) → va_W} {cc : ByteArray} {maxL : Nat}
    (hy : plainName y.cls = true) (hw : ws = Cond.code y cc maxL none :: ws') (hav : 1 ≤ maxL)
    (body : ∀ (h0 : Nat) (p : Program) (e : Env) (s : State) (m : MethodId) (below : List Frame) (meth : Method) (c : Code) (ls : Array Slot) (Aa : Nat → Prop) (Q : State → Prop), CallFix p m c cc maxL s #[Value.ref h0] ws y.cls → meth.name = y.name → va_K G vwCl tys s → aoOK s → va_P G vwCl [(h0, e0)] s.heap → va_D Aa [(h0, e0)] → va_S Aa s.heap s.heap [] → (∀ q, s.heap.size ≤ q → Aa q) → lv_has ls maxL [(0, .ref h0)] →
      (∀ (pc : Nat) (ls : Array Slot) (H : Heap) (locs : List Loc) (u : Nat → Nat) (cells slots : Nat), cells ≤ mc → slots ≤ ms → decode cc pc = .ok (.return_, 1) → va_P G vwCl (w1 h0 u) H → va_D Aa (w1 h0 u) → va_S Aa s.heap H locs → W p l e (cnR rm mc ms) s m #[Value.ref h0] below meth c H locs cells slots Q (F0 m pc ls [])) →
      W p l e (cnR rm mc ms) s m #[Value.ref h0] below meth c s.heap [] 0 0 Q (F0 m 0 ls [])) : cnw l G tys y ws rm mc ms e0 w1 := by
  intro h0 sz
  refine Met.ofW (cc := cc) (maxL := maxL) (ret := none) hy hw ?_
  intro p e s m args below meth c s₁ B hml hv
  obtain ⟨rfl, hsz, hP, hK, hD0, hN⟩ := hv
  have hts := atoms_spec (ws := ws) B.pre
  have hown : s.vm.findClass y.cls = some m.cls := findClass_of_methodNamed B.named
  have hD := hD0.self (sz := sz)
  have hA : ∀ q : Nat, s.heap.size ≤ q → va_A [(h0, e0)] sz q := fun q h => Or.inr (hsz ▸ h)
  have hl := lv_entry [.ref h0] (n := maxL) hav
  rw [lg_entry_eq]
  refine body h0 p e s m below meth c _ (va_A [(h0, e0)] sz) _ ⟨B.exec, B.bytes, hml, hown, hts⟩ (name_of_methodNamed B.named B.method).1 hK hN hP hD va_S.rf hA hl ?_
  intro pc ls H locs u cells slots hc hs hd hP hD hS
  exact W.widen hc hs (W.vret B.exec B.bytes B.returns (fun t ht hW => ⟨⟨u, rfl, trivial, by rw [ht]; exact hP, va_K.moved hW.alike hK, hD⟩, hS.F ht⟩) hS.2.2 hd B.notSynchronized)
theorem aA_not {wr : va_W} {q : Nat} {e0 : va_E} {A : Nat → Prop} {G : va_G} {H : Heap} (hP : va_P G vwCl (wr ++ [(q, e0)]) H) (hD : va_D A (wr ++ [(q, e0)])) {k : Nat} {x : Nat × va_E} (hx : wr[k]? = some x) : ¬ va_A [(q, e0)] H.size x.1 := by
  have hk : k < wr.length := (List.getElem?_eq_some_iff.mp hx).1
  have h1 : (wr ++ [(q, e0)])[k]? = some x := by rw [List.getElem?_append_left hk]; exact hx
  rintro (⟨j, e, hj⟩ | h)
  · have hj0 : j < 1 := (List.getElem?_eq_some_iff.mp hj).1
    rw [show j = 0 by omega] at hj
    have h2 : (wr ++ [(q, e0)])[wr.length]? = some (q, e0) := by rw [List.getElem?_append_right (Nat.le_refl _), Nat.sub_self]; rfl
    have he : x.1 = q := (congrArg Prod.fst (Option.some.inj hj)).symm
    have := hD.1 k wr.length x (q, e0) h1 h2 he
    omega
  · have := vx_lt hP h1
    omega
section CN
variable {p : Program} {l : Launch} {e : Env} {R : Room} {s : State} {m : MethodId} {args : Array Value} {below : List Frame} {meth : Method} {c : Code} {H : Heap} {locs : List Loc} {cells slots mc ms : Nat} {Q : State → Prop} {pc : Nat} {ls : Array Slot} {st0 rest : List Value} {A : Nat → Prop} {H0 : Heap} {a : Array Value}
theorem cn_pre {G : va_G} {tys : List (ClassId × FieldType)} {wr : va_W} {e0 : va_E} {q : Nat} (hK : va_K G vwCl tys s) (hN : aoOK s) (hP : va_P G vwCl (wr ++ [(q, e0)]) H) (hD : va_D A (wr ++ [(q, e0)])) : PreS s H (cnP G tys [(q, e0)] q H.size) (.ref q :: []) :=
  ⟨cn_blind, fun U hU hW => ⟨rfl, by rw [hU], by rw [hU]; exact fun k x hx => hP (wr.length + k) x (by rw [List.getElem?_append_right (by omega), Nat.add_sub_cancel_left]; exact hx), va_K.moved hW.alike hK, ⟨fun i j x y hi hj _ => by have h1 := (List.getElem?_eq_some_iff.mp hi).1; have h2 := (List.getElem?_eq_some_iff.mp hj).1; simp at h1 h2; omega, fun _ _ _ => trivial⟩, hN.moved hW.alike⟩⟩
theorem cn_call {G : va_G} {tys : List (ClassId × FieldType)} {wr : va_W} {e0 : va_E} {q : Nat} {w1 : (Nat → Nat) → va_W}
    (hP : va_P G vwCl (wr ++ [(q, e0)]) H) (hD : va_D A (wr ++ [(q, e0)])) (hS : va_S A H0 H locs) (hA : ∀ q, H0.size ≤ q → A q)
    (hr : va_Run p l e R s m args below meth c H locs cells slots mc ms (F0 m pc ls st0) rest (va_Qv (fun _ : Nat → Nat => True) (cnB G tys w1 (va_A [(q, e0)] H.size)) (va_A [(q, e0)] H.size) a) (va_A [(q, e0)] H.size))
    (kk : ∀ (u : Nat → Nat) (H1 : Heap) (locs1 : List Loc), va_P G vwCl (wr ++ w1 u) H1 → va_D A (wr ++ w1 u) → va_S A H0 H1 locs1 → W p l e R s m args below meth c H1 locs1 (cells + mc) (slots + ms) Q (F0 m (pc + 3) ls rest)) : W p l e R s m args below meth c H locs cells slots Q (F0 m pc ls st0) := by
  have hF : ∀ x, va_A [(q, e0)] H.size x → A x := by
    rintro x (⟨j, e, hj⟩ | h)
    · have hj0 : j < 1 := (List.getElem?_eq_some_iff.mp hj).1
      rw [show j = 0 by omega] at hj
      have h2 : (wr ++ [(q, e0)])[wr.length]? = some (q, e0) := by rw [List.getElem?_append_right (Nat.le_refl _), Nat.sub_self]; rfl
      have he : x = q := (congrArg Prod.fst (Option.some.inj hj)).symm
      rw [he]; exact hD.2 _ _ h2
    · exact hA x (Nat.le_trans hS.1 h)
  refine va_callv hr hS (fun x _ h => hF x h) hF (fun u1 t H1 locs1 ht hvm _ hB hz1 hk1 hS1 => ?_)
  obtain ⟨hP1, hK1, hD1⟩ := hB
  rw [ht] at hP1
  have hwr : va_P G vwCl wr H := fun k x hx => hP k x (by rw [List.getElem?_append_left (List.getElem?_eq_some_iff.mp hx).1]; exact hx)
  have hwd : va_D A wr := ⟨fun i j x y hi hj h => hD.1 i j x y (by rw [List.getElem?_append_left (List.getElem?_eq_some_iff.mp hi).1]; exact hi) (by rw [List.getElem?_append_left (List.getElem?_eq_some_iff.mp hj).1]; exact hj) h, fun k x hx => hD.2 k x (by rw [List.getElem?_append_left (List.getElem?_eq_some_iff.mp hx).1]; exact hx)⟩
  refine kk u1 H1 locs1 ((hwr.kept (fun k x hx => hk1 _ (vx_lt hwr hx) (aA_not hP hD hx))).app hP1) (hwd.app (hD1.weaken (fun k x h _ => hF _ (hD1.2 k x h))) (fun i j x y hi hj h => ?_)) hS1
  exact aA_not hP hD hi (by rw [h]; exact hD1.2 j y hj)
end CN
theorem arr_same {G : va_G} {tys : List (ClassId × FieldType)} {s : State} {cA : ClassId} {ty : FieldType} {k : Nat} {c0 : ClassId} (hK : va_K G vwCl (tys ++ [(cA, ty)]) s) (hk : tys[k]? = some (c0, ty)) (ho : ∀ C, ty ≠ .object C) : cA = c0 := by
  have h1 := (hK.2 k (c0, ty) (by rw [List.getElem?_append_left (List.getElem?_eq_some_iff.mp hk).1]; exact hk)).2
  have h2 := (hK.2 tys.length (cA, ty) (by rw [List.getElem?_append_right (Nat.le_refl _), Nat.sub_self]; rfl)).2
  have key : ∀ ty : FieldType, (∀ C, ty ≠ .object C) → va_RA s c0 ty → va_RA s cA ty → cA = c0 := by
    intro ty ho a b
    cases ty with
    | object C => exact absurd rfl (ho C)
    | _ => exact Option.some.inj (b.symm.trans a)
  exact key ty ho h1 h2
