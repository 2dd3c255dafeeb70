-- the nest's words, as data, so that they move in one lemma
def nwF : List (String × Nat × String × String × String × String) := [(RX1, 16, "CycleHouse$Graph", "vertices", "I", "CycleHouse"), (RX6, 18, "CycleHouse$Graph", "vertices", "I", "CycleHouse"), (RX4, 47, "CycleHouse$Graph", "vertices", "I", "CycleHouse"), (RX7, 205, "CycleHouse$Graph", "vertices", "I", "CycleHouse"), (RX7, 69, "CycleHouse$Graph", "edges", "I", "CycleHouse"), (RX1, 28, "CycleHouse$Graph", "edges", "I", "CycleHouse"), (RX0, 22, "CycleHouse$Graph", "edges", "I", "CycleHouse"), (RX6, 30, "CycleHouse$Graph", "edges", "I", "CycleHouse"), (RX4, 58, "CycleHouse$Graph", "edges", "I", "CycleHouse"), (RX0, 28, "CycleHouse$Graph", "from", "[I", "CycleHouse"), (RX1, 37, "CycleHouse$Graph", "from", "[I", "CycleHouse"), (RX3, 26, "CycleHouse$Graph", "from", "[I", "CycleHouse"), (RX6, 33, "CycleHouse$Graph", "from", "[I", "CycleHouse"), (RX4, 65, "CycleHouse$Graph", "from", "[I", "CycleHouse"), (RX7, 141, "CycleHouse$Graph", "from", "[I", "CycleHouse"), (RX0, 32, "CycleHouse$Graph", "to", "[I", "CycleHouse"), (RX1, 40, "CycleHouse$Graph", "to", "[I", "CycleHouse"), (RX3, 31, "CycleHouse$Graph", "to", "[I", "CycleHouse"), (RX6, 37, "CycleHouse$Graph", "to", "[I", "CycleHouse"), (RX4, 69, "CycleHouse$Graph", "to", "[I", "CycleHouse"), (RX7, 149, "CycleHouse$Graph", "to", "[I", "CycleHouse"), (RX6, 40, "CycleHouse$Graph", "weight", "[I", "CycleHouse"), (RX4, 82, "CycleHouse$Graph", "weight", "[I", "CycleHouse"), (RX7, 158, "CycleHouse$Graph", "weight", "[I", "CycleHouse"), (RX7, 192, "CycleHouse$SetList", "sets", "I", "CycleHouse"), (RX7, 218, "CycleHouse$SetList", "rank", "I", "CycleHouse"), (RX7, 244, "CycleHouse$Groups", "count", "I", "CycleHouse"), (RX1, 31, "CycleHouse$Groups", "name", "[I", "CycleHouse"), (RX4, 79, "CycleHouse$Ways", "length", "[J", "CycleHouse"), (RX7, 155, "CycleHouse$Ways", "length", "[J", "CycleHouse"), (RX4, 72, "CycleHouse$Ways", "way", "[J", "CycleHouse"), (RX7, 167, "CycleHouse$LightBasis", "weight", "[J", "CycleHouse")]
def nwM : List (String × Nat × MethodName × String) := [(RX2, 28, yX7_has, "CycleHouse"), (RX5, 38, yX7_has, "CycleHouse")]
def nwOK (U : State) : Prop := (∀ q ∈ nwF, va_Nw (.fieldLinkNest q.1 q.2.1 q.2.2.1 q.2.2.2.1 q.2.2.2.2.1 q.2.2.2.2.2) U) ∧ ∀ q ∈ nwM, va_Nw (.methodLinkNest q.1 q.2.1 q.2.2.1 q.2.2.2) U
theorem nwOK.moved {s U : State} (hW : s.WarmedH U.vm) (h : nwOK s) : nwOK U := ⟨fun q hq => va_Nw.warmF hW (h.1 q hq), fun q hq => va_Nw.warmM hW (h.2 q hq)⟩
theorem nwOK.same {s U : State} (hW : s.vm = U.vm) (h : nwOK s) : nwOK U := ⟨fun q hq => va_Nw.same rfl hW (h.1 q hq), fun q hq => va_Nw.same rfl hW (h.2 q hq)⟩
theorem nwOK.f {s : State} (h : nwOK s) {A : Array Value} (a : String) (i : Nat) (b n d t : String) (hq : (a, i, b, n, d, t) ∈ nwF) : (Cond.fieldLinkNest a i b n d t).before A s = true := va_Nw.use rfl (h.1 _ hq)
theorem nwOK.m {s : State} (h : nwOK s) (a : String) (i : Nat) (y : MethodName) (t : String) (hq : (a, i, y, t) ∈ nwM) : va_Nw (.methodLinkNest a i y t) s := h.2 _ hq
-- contracts over a world that is a function of a state u
def ctB {σ : Type} (G : va_G) (tys : List (ClassId × FieldType)) (Wd : σ → va_W) (A : Nat → Prop) (u : σ) (t : State) : Prop := va_P G vwCl (Wd u) t.heap ∧ va_K G vwCl tys t ∧ va_D A (Wd u)
def ctP {σ : Type} (G : va_G) (tys : List (ClassId × FieldType)) (Wd : σ → va_W) (av : List Value) (u : σ) (sz : Nat) : Array Value → State → Prop := va_Pc av (fun U => U.heap.size = sz ∧ va_P G vwCl (Wd u) U.heap ∧ va_K G vwCl tys U ∧ va_D (fun _ => True) (Wd u) ∧ nwOK U)
abbrev ctR (rm : Nat × Nat) : Room := { frames := rm.1, cells := 0, slots := 0, locals := rm.2 }
def ctI {σ : Type} (l : Launch) (G : va_G) (tys : List (ClassId × FieldType)) (Wd : σ → va_W) (y : MethodName) (ws : List Cond) (rm : Nat × Nat) (av : List Value) (u : σ) (post : Int32 → σ → Prop) : Prop :=
  ∀ sz : Nat, Met l y ws (ctR rm) (ctP G tys Wd av u sz) (va_Qi post (ctB G tys Wd (va_A (Wd u) sz)) (va_A (Wd u) sz)) 0 0 (va_A (Wd u) sz)
def ctL {σ : Type} (l : Launch) (G : va_G) (tys : List (ClassId × FieldType)) (Wd : σ → va_W) (y : MethodName) (ws : List Cond) (rm : Nat × Nat) (av : List Value) (u : σ) (post : Int64 → σ → Prop) : Prop :=
  ∀ sz : Nat, Met l y ws (ctR rm) (ctP G tys Wd av u sz) (va_Ql post (ctB G tys Wd (va_A (Wd u) sz)) (va_A (Wd u) sz)) 0 0 (va_A (Wd u) sz)
def ctV {σ : Type} (l : Launch) (G : va_G) (tys : List (ClassId × FieldType)) (Wd : σ → va_W) (y : MethodName) (ws : List Cond) (rm : Nat × Nat) (av : List Value) (u : σ) (post : σ → Prop) : Prop :=
  ∀ sz : Nat, Met l y ws (ctR rm) (ctP G tys Wd av u sz) (va_Qv post (ctB G tys Wd (va_A (Wd u) sz)) (va_A (Wd u) sz)) 0 0 (va_A (Wd u) sz)
/-- the body's head, whatever the answer: Q is a name, the way out a hypothesis -/
theorem ct_head {σ : Type} {l : Launch} {G : va_G} {tys : List (ClassId × FieldType)} {Wd : σ → va_W} {y : MethodName} {ws ws' : List Cond} {rm : Nat × Nat} {av : List Value} {u : σ} {sz : Nat} {Qc : Array Value → State → Outcome → State → Prop} {cc : ByteArray} {maxL : Nat} {ret : Option FieldType}
    (hy : plainName y.cls = true) (hw : ws = Cond.code y cc maxL ret :: ws') (hav : (lg_sl av).length ≤ maxL)
    (body : ∀ (p : Program) (e : Env) (s : State) (m : MethodId) (below : List Frame) (meth : Method) (c : Code) (ls : Array Slot), s.heap.size = sz → CallFix p m c cc maxL s av.toArray ws y.cls → meth.sig.returnType = ret → meth.locks = false → va_K G vwCl tys s → nwOK s → va_P G vwCl (Wd u) s.heap → va_D (va_A (Wd u) sz) (Wd u) → (∀ q, s.heap.size ≤ q → (va_A (Wd u) sz) q) → lv_has ls maxL (lv_args 0 av) →
      W p l e (ctR rm) s m av.toArray below meth c s.heap [] 0 0 (MQ below Qc av.toArray s 0 0 (va_A (Wd u) sz)) (F0 m 0 ls [])) : Met l y ws (ctR rm) (ctP G tys Wd av u sz) Qc 0 0 (va_A (Wd u) sz) := by
  refine Met.ofW (cc := cc) (maxL := maxL) (ret := ret) hy hw ?_
  intro p e s m args below meth c s₁ B hml hv
  obtain ⟨rfl, hsz, hP, hK, hD0, hN⟩ := hv
  have hts := atoms_spec (ws := ws) B.pre
  have hown : s.vm.findClass y.cls = some m.cls := findClass_of_methodNamed B.named
  have hD := hD0.self (sz := sz)
  have hA : ∀ q : Nat, s.heap.size ≤ q → va_A (Wd u) sz q := fun q h => Or.inr (hsz ▸ h)
  have hl := lv_entry av (n := maxL) hav
  rw [lg_entry_eq]
  exact body p e s m below meth c _ hsz ⟨B.exec, B.bytes, hml, hown, hts⟩ B.returns B.notSynchronized hK hN hP hD hA hl
theorem ctI_intro {σ : Type} {l : Launch} {G : va_G} {tys : List (ClassId × FieldType)} {Wd : σ → va_W} {y : MethodName} {ws ws' : List Cond} {rm : Nat × Nat} {av : List Value} {u : σ} {post : Int32 → σ → Prop} {cc : ByteArray} {maxL : Nat} {ty : FieldType}
    (hy : plainName y.cls = true) (hw : ws = Cond.code y cc maxL (some ty) :: ws') (hav : (lg_sl av).length ≤ maxL)
    (body : ∀ (p : Program) (e : Env) (s : State) (m : MethodId) (below : List Frame) (meth : Method) (c : Code) (ls : Array Slot) (Aa : Nat → Prop) (Q : State → Prop), CallFix p m c cc maxL s av.toArray ws y.cls → va_K G vwCl tys s → nwOK s → va_P G vwCl (Wd u) s.heap → va_D Aa (Wd u) → va_S Aa s.heap s.heap [] → (∀ q, s.heap.size ≤ q → Aa q) → lv_has ls maxL (lv_args 0 av) →
      (∀ (pc : Nat) (ls : Array Slot) (H : Heap) (locs : List Loc) (v : Int32) (u' : σ), decode cc pc = .ok (.ireturn, 1) → narrow ty (.int v) = .int v → post v u' → va_P G vwCl (Wd u') H → va_D Aa (Wd u') → va_S Aa s.heap H locs → W p l e (ctR rm) s m av.toArray below meth c H locs 0 0 Q (F0 m pc ls [.int v])) →
      W p l e (ctR rm) s m av.toArray below meth c s.heap [] 0 0 Q (F0 m 0 ls [])) : ctI l G tys Wd y ws rm av u post := by
  intro sz
  refine ct_head (cc := cc) (maxL := maxL) (ret := some ty) hy hw hav ?_
  intro p e s m below meth c ls hsz F hr hlocks hK hN hP hD hA hl
  refine body p e s m below meth c ls (va_A (Wd u) sz) _ F hK hN hP hD va_S.rf hA hl ?_
  intro pc ls H locs v u' hd hn hp hP hD hS
  exact W.zret F.1 F.2.1 hr hn (fun t ht hW => ⟨⟨v, u', rfl, hp, by rw [ht]; exact hP, va_K.moved hW.alike hK, hD⟩, hS.F ht⟩) hS.2.2 hd hlocks
theorem ctL_intro {σ : Type} {l : Launch} {G : va_G} {tys : List (ClassId × FieldType)} {Wd : σ → va_W} {y : MethodName} {ws ws' : List Cond} {rm : Nat × Nat} {av : List Value} {u : σ} {post : Int64 → σ → Prop} {cc : ByteArray} {maxL : Nat}
    (hy : plainName y.cls = true) (hw : ws = Cond.code y cc maxL (some .long) :: ws') (hav : (lg_sl av).length ≤ maxL)
    (body : ∀ (p : Program) (e : Env) (s : State) (m : MethodId) (below : List Frame) (meth : Method) (c : Code) (ls : Array Slot) (Aa : Nat → Prop) (Q : State → Prop), CallFix p m c cc maxL s av.toArray ws y.cls → va_K G vwCl tys s → nwOK s → va_P G vwCl (Wd u) s.heap → va_D Aa (Wd u) → va_S Aa s.heap s.heap [] → (∀ q, s.heap.size ≤ q → Aa q) → lv_has ls maxL (lv_args 0 av) →
      (∀ (pc : Nat) (ls : Array Slot) (H : Heap) (locs : List Loc) (v : Int64) (u' : σ), decode cc pc = .ok (.lreturn, 1) → post v u' → va_P G vwCl (Wd u') H → va_D Aa (Wd u') → va_S Aa s.heap H locs → W p l e (ctR rm) s m av.toArray below meth c H locs 0 0 Q (F0 m pc ls [.long v])) →
      W p l e (ctR rm) s m av.toArray below meth c s.heap [] 0 0 Q (F0 m 0 ls [])) : ctL l G tys Wd y ws rm av u post := by
  intro sz
  refine ct_head (cc := cc) (maxL := maxL) (ret := some .long) hy hw hav ?_
  intro p e s m below meth c ls hsz F hr hlocks hK hN hP hD hA hl
  refine body p e s m below meth c ls (va_A (Wd u) sz) _ F hK hN hP hD va_S.rf hA hl ?_
  intro pc ls H locs v u' hd hp hP hD hS
  exact W.lret F.1 F.2.1 hr (fun t ht hW => ⟨⟨v, u', rfl, hp, by rw [ht]; exact hP, va_K.moved hW.alike hK, hD⟩, hS.F ht⟩) hS.2.2 hd hlocks
theorem ctV_intro {σ : Type} {l : Launch} {G : va_G} {tys : List (ClassId × FieldType)} {Wd : σ → va_W} {y : MethodName} {ws ws' : List Cond} {rm : Nat × Nat} {av : List Value} {u : σ} {post : σ → Prop} {cc : ByteArray} {maxL : Nat}
    (hy : plainName y.cls = true) (hw : ws = Cond.code y cc maxL none :: ws') (hav : (lg_sl av).length ≤ maxL)
    (body : ∀ (p : Program) (e : Env) (s : State) (m : MethodId) (below : List Frame) (meth : Method) (c : Code) (ls : Array Slot) (Aa : Nat → Prop) (Q : State → Prop), CallFix p m c cc maxL s av.toArray ws y.cls → va_K G vwCl tys s → nwOK s → va_P G vwCl (Wd u) s.heap → va_D Aa (Wd u) → va_S Aa s.heap s.heap [] → (∀ q, s.heap.size ≤ q → Aa q) → lv_has ls maxL (lv_args 0 av) →
      (∀ (pc : Nat) (ls : Array Slot) (H : Heap) (locs : List Loc) (u' : σ), decode cc pc = .ok (.return_, 1) → post u' → va_P G vwCl (Wd u') H → va_D Aa (Wd u') → va_S Aa s.heap H locs → W p l e (ctR rm) s m av.toArray below meth c H locs 0 0 Q (F0 m pc ls [])) →
      W p l e (ctR rm) s m av.toArray below meth c s.heap [] 0 0 Q (F0 m 0 ls [])) : ctV l G tys Wd y ws rm av u post := by
  intro sz
  refine ct_head (cc := cc) (maxL := maxL) (ret := none) hy hw hav ?_
  intro p e s m below meth c ls hsz F hr hlocks hK hN hP hD hA hl
  refine body p e s m below meth c ls (va_A (Wd u) sz) _ F hK hN hP hD va_S.rf hA hl ?_
  intro pc ls H locs u' hd hp hP hD hS
  exact W.vret F.1 F.2.1 hr (fun t ht hW => ⟨⟨u', rfl, hp, by rw [ht]; exact hP, va_K.moved hW.alike hK, hD⟩, hS.F ht⟩) hS.2.2 hd hlocks
theorem ct_free {A0 : Nat → Prop} {ws : va_W} {H0 H : Heap} {locs : List Loc} (hD : va_D A0 ws) (hS : va_S A0 H0 H locs) (hA : ∀ q, H0.size ≤ q → A0 q) : ∀ q, va_A ws H.size q → A0 q := by
  rintro q (⟨k, e, hk⟩ | hq)
  · exact hD.2 k _ hk
  · exact hA q (Nat.le_trans hS.1 hq)
theorem ct_blind {σ : Type} {G : va_G} {tys : List (ClassId × FieldType)} {Wd : σ → va_W} {av : List Value} {u : σ} {sz : Nat} : FrameBlind (ctP G tys Wd av u sz) := by
  intro a U g mk q
  obtain ⟨q0, q1, qP, qK, qD, qN⟩ := q
  exact ⟨q0, q1, qP, va_K.moved (u := U) (U := U.calling g mk a) (Vm.Alike.refl U.vm) qK, qD, nwOK.same (s := U) (U := U.calling g mk a) rfl qN⟩
theorem ct_preS {σ : Type} {G : va_G} {tys : List (ClassId × FieldType)} {Wd : σ → va_W} {As : List Value} {u : σ} {s : State} {H : Heap} {A : Nat → Prop} (hK : va_K G vwCl tys s) (hN : nwOK s) (hP : va_P G vwCl (Wd u) H) (hD : va_D A (Wd u)) : PreS s H (ctP G tys Wd As u H.size) As :=
  ⟨ct_blind, fun U hU hW => ⟨rfl, by rw [hU], by rw [hU]; exact hP, va_K.moved hW.alike hK, hD.weaken (fun _ _ _ _ => trivial), nwOK.moved hW hN⟩⟩
theorem ct_preV {σ : Type} {G : va_G} {tys : List (ClassId × FieldType)} {Wd : σ → va_W} {As : List Value} {u : σ} {s : State} {H : Heap} {A : Nat → Prop} {C : String} {T : u_T} {NN b : Nat} {fs : List Value} (q0 ci : Nat) (hK : va_K G vwCl tys s) (hN : nwOK s) (hP : va_P G vwCl (Wd u) H) (hD : va_D A (Wd u)) (hc : vwCl[ci]? = some (C, T, NN)) (he : (Wd u)[q0]? = some (b, .inr (ci, fs))) : PreV s H C b (ctP G tys Wd (.ref b :: As) u H.size) As :=
  ⟨ct_blind, va_recv hK hP hc he, fun U hU hW => ⟨rfl, by rw [hU], by rw [hU]; exact hP, va_K.moved hW.alike hK, hD.weaken (fun _ _ _ _ => trivial), nwOK.moved hW hN⟩⟩
section CT
variable {p : Program} {l : Launch} {e : Env} {R : Room} {s : State} {m : MethodId} {args : Array Value} {below : List Frame} {meth : Method} {c : Code} {H : Heap} {locs : List Loc} {cells slots : Nat} {Q : State → Prop} {pc : Nat} {ls : Array Slot} {st0 rest : List Value} {A : Nat → Prop} {H0 : Heap} {a : Array Value}
theorem ct_calli {σ : Type} {G : va_G} {tys : List (ClassId × FieldType)} {Wd : σ → va_W} {u : σ} {post : Int32 → σ → Prop}
    (hD : va_D A (Wd u)) (hS : va_S A H0 H locs) (hA : ∀ q, H0.size ≤ q → A q)
    (hr : va_Run p l e R s m args below meth c H locs cells slots 0 0 (F0 m pc ls st0) rest (va_Qi post (ctB G tys Wd (va_A (Wd u) H.size)) (va_A (Wd u) H.size) a) (va_A (Wd u) H.size))
    (kk : ∀ (r : Int32) (u' : σ) (H1 : Heap) (locs1 : List Loc), post r u' → va_P G vwCl (Wd u') H1 → va_D A (Wd u') → va_S A H0 H1 locs1 → W p l e R s m args below meth c H1 locs1 cells slots Q (F0 m (pc + 3) ls (.int r :: rest))) : W p l e R s m args below meth c H locs cells slots Q (F0 m pc ls st0) := by
  have hF := ct_free hD hS hA
  refine va_calli hr hS (fun q _ h => hF q h) hF (fun r u1 t H1 locs1 ht hvm hw hB hz1 hk1 hS1 => ?_)
  obtain ⟨hP1, hK1, hD1⟩ := hB
  rw [ht] at hP1
  exact kk r u1 H1 locs1 hw hP1 (hD1.weaken (fun k q h _ => hF _ (by first | exact hD1.2 k q h | assumption))) hS1
theorem ct_calll {σ : Type} {G : va_G} {tys : List (ClassId × FieldType)} {Wd : σ → va_W} {u : σ} {post : Int64 → σ → Prop}
    (hD : va_D A (Wd u)) (hS : va_S A H0 H locs) (hA : ∀ q, H0.size ≤ q → A q)
    (hr : va_Run p l e R s m args below meth c H locs cells slots 0 0 (F0 m pc ls st0) rest (va_Ql post (ctB G tys Wd (va_A (Wd u) H.size)) (va_A (Wd u) H.size) a) (va_A (Wd u) H.size))
    (kk : ∀ (r : Int64) (u' : σ) (H1 : Heap) (locs1 : List Loc), post r u' → va_P G vwCl (Wd u') H1 → va_D A (Wd u') → va_S A H0 H1 locs1 → W p l e R s m args below meth c H1 locs1 cells slots Q (F0 m (pc + 3) ls (.long r :: rest))) : W p l e R s m args below meth c H locs cells slots Q (F0 m pc ls st0) := by
  have hF := ct_free hD hS hA
  refine va_calll hr hS (fun q _ h => hF q h) hF (fun r u1 t H1 locs1 ht hvm hw hB hz1 hk1 hS1 => ?_)
  obtain ⟨hP1, hK1, hD1⟩ := hB
  rw [ht] at hP1
  exact kk r u1 H1 locs1 hw hP1 (hD1.weaken (fun k q h _ => hF _ (by first | exact hD1.2 k q h | assumption))) hS1
theorem ct_callv {σ : Type} {G : va_G} {tys : List (ClassId × FieldType)} {Wd : σ → va_W} {u : σ} {post : σ → Prop}
    (hD : va_D A (Wd u)) (hS : va_S A H0 H locs) (hA : ∀ q, H0.size ≤ q → A q)
    (hr : va_Run p l e R s m args below meth c H locs cells slots 0 0 (F0 m pc ls st0) rest (va_Qv post (ctB G tys Wd (va_A (Wd u) H.size)) (va_A (Wd u) H.size) a) (va_A (Wd u) H.size))
    (kk : ∀ (u' : σ) (H1 : Heap) (locs1 : List Loc), post u' → va_P G vwCl (Wd u') H1 → va_D A (Wd u') → va_S A H0 H1 locs1 → W p l e R s m args below meth c H1 locs1 cells slots Q (F0 m (pc + 3) ls rest)) : W p l e R s m args below meth c H locs cells slots Q (F0 m pc ls st0) := by
  have hF := ct_free hD hS hA
  refine va_callv hr hS (fun q _ h => hF q h) hF (fun u1 t H1 locs1 ht hvm hw hB hz1 hk1 hS1 => ?_)
  obtain ⟨hP1, hK1, hD1⟩ := hB
  rw [ht] at hP1
  exact kk u1 H1 locs1 hw hP1 (hD1.weaken (fun k q h _ => hF _ (by first | exact hD1.2 k q h | assumption))) hS1
end CT
-- the worlds
abbrev sgM : Type := (Nat → Int32) × (Nat → Nat → Int32) × (Nat → Nat → Int64)
abbrev sgH : Type := (Nat → Int32) × (Nat → Nat → Int32) × (Nat → Nat → Int64) × (Nat → Nat → Int32) × (Nat → Nat → Int64)
abbrev aI (c : ClassId) (n : Nat) (f : Nat → Int32) : va_E := .inl (c, n, .inl f)
abbrev aJ (c : ClassId) (n : Nat) (f : Nat → Int64) : va_E := .inl (c, n, .inr (.inl f))
abbrev MW (cI cJ cZ : ClassId) (R : Nat → Nat) (u : sgM) : va_W :=
  [(R 0, .inr (8, [.int (u.1 0), .int (u.1 1), .int (u.1 2), .ref (R 3), .ref (R 4), .ref (R 5), .ref (R 6), .int (u.1 7), .ref (R 8), .ref (R 9), .int (u.1 10), .ref (R 11), .ref (R 12), .ref (R 13), .ref (R 14), .ref (R 15), .int (u.1 16), .ref (R 17), .ref (R 18), .ref (R 19)])),
   (R 3, aI cI 40 (u.2.1 3)), (R 4, aI cI 40 (u.2.1 4)), (R 5, aI cI 40 (u.2.1 5)), (R 6, aJ cJ 64 (u.2.2 6)), (R 8, aI cI 16 (u.2.1 8)), (R 9, aJ cJ 16 (u.2.2 9)), (R 11, aJ cJ 40 (u.2.2 11)), (R 12, aI cI 40 (u.2.1 12)), (R 13, aJ cJ 16384 (u.2.2 13)), (R 14, aJ cJ 16384 (u.2.2 14)), (R 15, aJ cJ 64 (u.2.2 15)), (R 17, aJ cJ 256 (u.2.2 17)), (R 18, aI cI 16 (u.2.1 18)), (R 19, aI cZ 16 (u.2.1 19))]
abbrev gO (R : Nat → Nat) (b : Nat) : Nat → Option Nat := fun i => if i < 16 then some (R (b + i)) else none
abbrev aO (c : ClassId) (n : Nat) (g : Nat → Option Nat) : va_E := .inl (c, n, .inr (.inr (.inr (.inr g))))
abbrev HW (cI cJ cII cJJ : ClassId) (R : Nat → Nat) (u : sgH) : va_W :=
  [(R 0, .inr (7, [.ref (R 1), .ref (R 5), .ref (R 7), .ref (R 10), .ref (R 13), .ref (R 18), .ref (R 19), .ref (R 20)])),
   (R 1, .inr (2, [.int (u.1 0), .int (u.1 1), .ref (R 2), .ref (R 3), .ref (R 4)])), (R 2, aI cI 40 (u.2.1 2)), (R 3, aI cI 40 (u.2.1 3)), (R 4, aI cI 40 (u.2.1 4)),
   (R 5, .inr (5, [.int (u.1 2), .int (u.1 3), .ref (R 6)])), (R 6, aJ cJ 40 (u.2.2.1 6)),
   (R 7, .inr (3, [.int (u.1 4), .int (u.1 5), .ref (R 8), .ref (R 9)])), (R 8, aI cI 16 (u.2.1 8)), (R 9, aJ cJ 16 (u.2.2.1 9)),
   (R 10, .inr (6, [.ref (R 11), .ref (R 12)])), (R 11, aJ cJ 16 (u.2.2.1 11)), (R 12, aJ cJ 16 (u.2.2.1 12)),
   (R 13, .inr (4, [.int (u.1 6), .ref (R 14), .ref (R 15), .int (u.1 7), .ref (R 16), .ref (R 17)])), (R 14, aJ cJ 14 (u.2.2.1 14)), (R 15, aJ cJ 14 (u.2.2.1 15)), (R 16, aJ cJ 640 (u.2.2.1 16)), (R 17, aJ cJ 640 (u.2.2.1 17)),
   (R 18, .inr (1, [.ref (R 21)])), (R 19, .inr (0, [.ref (R 22)])), (R 20, aJ cJ 14 (u.2.2.1 20)), (R 21, aO cJJ 16 (gO R 100)), (R 22, aO cII 16 (gO R 200))]
  ++ ((List.range 16).map (fun i => (R (100 + i), aJ cJ 16 (u.2.2.2.2 i))) ++ (List.range 16).map (fun i => (R (200 + i), aI cI 16 (u.2.2.2.1 i))))
abbrev tyL (cI cJ cZ cII cJJ : ClassId) : List (ClassId × FieldType) := [(cI, .int), (cJ, .long), (cZ, .boolean), (cII, .array .int), (cJJ, .array .long)]
