-- contracts of methods that return or throw
abbrev nIA : String := "java/lang/IllegalArgumentException"
abbrev nIS : String := "java/lang/IllegalStateException"
abbrev nNE : String := "java/util/NoSuchElementException"
abbrev nmX : List String := ["java/lang/RuntimeException", "java/lang/Exception"]
def exD : List MethodName := [⟨"java/lang/RuntimeException", "<init>", "(Ljava/lang/String;)V"⟩, ⟨"java/lang/Exception", "<init>", "(Ljava/lang/String;)V"⟩, ⟨"java/lang/Throwable", "<init>", "(Ljava/lang/String;)V"⟩]
def exC : List (String × String) := [(nIA, nIA), (nIS, nIS), (nNE, nNE)]
def exN : List (String × String) := [(nIS, nIA)]
def exS : List (Nat × String) := [(105, "there is no edge"), (138, "no such edge"), (161, "a basis has not so many cycles"), (195, "the list has 64 sets"), (224, "what is 0 .. 8"), (226, "the set has an edge that is not there"), (228, "the set has bits from 40 on"), (64, "vertices are 1 .. 16"), (81, "no such vertex"), (84, "a weight is 0 .. 1000000000"), (88, "there are 40 edges"), (99, "the dimension is 14")]
def exW : List Cond := exD.map Cond.declares ++ exC.map (fun q => Cond.castable q.1 q.2)
def exOK (U : State) : Prop := (∀ x ∈ exD, va_Nw (.declares x) U) ∧ (∀ q ∈ exC, va_Nw (.castable q.1 q.2) U) ∧ (∀ q ∈ exN, va_Nc q.1 q.2 U) ∧ ∀ q ∈ exS, ∃ sa, vk_R RX7 q.1 q.2 sa U
theorem exOK.moved {s U : State} (hW : s.WarmedH U.vm) (h : exOK s) : exOK U :=
  ⟨fun x hx => va_Nw.warmD hW (h.1 x hx), fun q hq => va_Nw.warmC hW (h.2.1 q hq), fun q hq => va_Nc.moved hW.alike (h.2.2.1 q hq), fun q hq => by obtain ⟨sa, hs⟩ := h.2.2.2 q hq; exact ⟨sa, vk_R.warm hW hs⟩⟩
theorem exOK.same {s U : State} (hv : s.vm = U.vm) (h : exOK s) : exOK U :=
  ⟨fun x hx => va_Nw.same rfl hv (h.1 x hx), fun q hq => va_Nw.same rfl hv (h.2.1 q hq), fun q hq => va_Nc.moved (by rw [hv]; exact Vm.Alike.refl _) (h.2.2.1 q hq), fun q hq => by obtain ⟨sa, hs⟩ := h.2.2.2 q hq; exact ⟨sa, vk_R.same hv.symm hs⟩⟩
theorem exOK.w {s : State} (h : exOK s) {A : Array Value} : ∀ w ∈ exW, w.before A s = true := by
  intro w hw
  rcases List.mem_append.mp hw with h1 | h1
  · obtain ⟨x, hx, rfl⟩ := List.mem_map.mp h1; exact va_Nw.use rfl (h.1 x hx)
  · obtain ⟨q, hq, rfl⟩ := List.mem_map.mp h1; exact va_Nw.use rfl (h.2.1 q hq)
def exP (A : Nat → Prop) (U : State) (H : Heap) : Prop := exOK U ∧ vx_Zq Bundle.tN "UNASSIGNED_STACK" Bundle.steD A U H ∧ vx_Zq Bundle.tN "SUPPRESSED_SENTINEL" Bundle.listD A U H
theorem exP.go {A B : Nat → Prop} {s U : State} {H0 H : Heap} {locs : List Loc} (h : exP A s H0) (hW : s.WarmedH U.vm) (hS : va_S A H0 H locs) (hAB : ∀ q, B q → A q) : exP B U H :=
  ⟨h.1.moved hW, ((h.2.1.moved hW.alike).kept (fun a ha hn => hS.2.1 a ha hn)).narrow hAB, ((h.2.2.moved hW.alike).kept (fun a ha hn => hS.2.1 a ha hn)).narrow hAB⟩
abbrev cxR (rm : Nat × Nat) (k : Nat) : Room := { frames := rm.1, cells := k, slots := 6 * k, locals := rm.2 }
def cxP {σ : Type} (G : va_G) (tys : List (ClassId × FieldType)) (Wd : σ → va_W) (av : List Value) (u : σ) (sz : Nat) : Array Value → State → Prop := va_Pc av (fun U => U.heap.size = sz ∧ va_P G vwCl (Wd u) U.heap ∧ va_K G vwCl tys U ∧ va_D (fun _ => True) (Wd u) ∧ nwOK U ∧ exP (va_A (Wd u) sz) U U.heap)
abbrev cxX {σ : Type} (G : va_G) (tys : List (ClassId × FieldType)) (Wd : σ → va_W) (A : Nat → Prop) (postx : String → σ → Prop) : String → State → State → Prop := vx_X (fun _ : σ => True) (fun E u t => postx E u ∧ ctB G tys Wd A u t) A
def cxI {σ : Type} (l : Launch) (G : va_G) (tys : List (ClassId × FieldType)) (Wd : σ → va_W) (y : MethodName) (ws : List Cond) (rm : Nat × Nat) (k : Nat) (av : List Value) (u : σ) (post : Int32 → σ → Prop) (postx : String → σ → Prop) : Prop :=
  ∀ sz : Nat, vx_Met l y ws (cxR rm k) (cxP G tys Wd av u sz) (va_Qi post (ctB G tys Wd (va_A (Wd u) sz)) (va_A (Wd u) sz)) (cxX G tys Wd (va_A (Wd u) sz) postx) k (6 * k) (va_A (Wd u) sz)
def cxL {σ : Type} (l : Launch) (G : va_G) (tys : List (ClassId × FieldType)) (Wd : σ → va_W) (y : MethodName) (ws : List Cond) (rm : Nat × Nat) (k : Nat) (av : List Value) (u : σ) (post : Int64 → σ → Prop) (postx : String → σ → Prop) : Prop :=
  ∀ sz : Nat, vx_Met l y ws (cxR rm k) (cxP G tys Wd av u sz) (va_Ql post (ctB G tys Wd (va_A (Wd u) sz)) (va_A (Wd u) sz)) (cxX G tys Wd (va_A (Wd u) sz) postx) k (6 * k) (va_A (Wd u) sz)
def cxV {σ : Type} (l : Launch) (G : va_G) (tys : List (ClassId × FieldType)) (Wd : σ → va_W) (y : MethodName) (ws : List Cond) (rm : Nat × Nat) (k : Nat) (av : List Value) (u : σ) (post : σ → Prop) (postx : String → σ → Prop) : Prop :=
  ∀ sz : Nat, vx_Met l y ws (cxR rm k) (cxP G tys Wd av u sz) (va_Qv post (ctB G tys Wd (va_A (Wd u) sz)) (va_A (Wd u) sz)) (cxX G tys Wd (va_A (Wd u) sz) postx) k (6 * k) (va_A (Wd u) sz)
theorem cx_blind {σ : Type} {G : va_G} {tys : List (ClassId × FieldType)} {Wd : σ → va_W} {av : List Value} {u : σ} {sz : Nat} : FrameBlind (cxP G tys Wd av u sz) := by
  intro a U g mk q
  obtain ⟨q0, q1, qP, qK, qD, qN, qX⟩ := q
  exact ⟨q0, q1, qP, va_K.moved (u := U) (U := U.calling g mk a) (Vm.Alike.refl U.vm) qK, qD, nwOK.same (s := U) (U := U.calling g mk a) rfl qN, exOK.same (s := U) (U := U.calling g mk a) rfl qX.1, vx_Zq.moved (u := U) (U := U.calling g mk a) (Vm.Alike.refl U.vm) qX.2.1, vx_Zq.moved (u := U) (U := U.calling g mk a) (Vm.Alike.refl U.vm) qX.2.2⟩
theorem cx_preV {σ : Type} {G : va_G} {tys : List (ClassId × FieldType)} {Wd : σ → va_W} {As : List Value} {u : σ} {s : State} {H H0 : Heap} {locs : List Loc} {A : Nat → Prop} {C : String} {T : u_T} {NN b : Nat} {fs : List Value} (q0 ci : Nat) (hK : va_K G vwCl tys s) (hN : nwOK s) (hX : exP A s H0) (hS : va_S A H0 H locs) (hA : ∀ q, H0.size ≤ q → A q) (hP : va_P G vwCl (Wd u) H) (hD : va_D A (Wd u)) (hc : vwCl[ci]? = some (C, T, NN)) (he : (Wd u)[q0]? = some (b, .inr (ci, fs))) : PreV s H C b (cxP G tys Wd (.ref b :: As) u H.size) As :=
  ⟨cx_blind, va_recv hK hP hc he, fun U hU hW => ⟨rfl, by rw [hU], by rw [hU]; exact hP, va_K.moved hW.alike hK, hD.weaken (fun _ _ _ _ => trivial), nwOK.moved hW hN, by rw [hU]; exact hX.go hW hS (ct_free hD hS hA)⟩⟩
/-- a throw, and a throw of a callee's that goes on to the caller -/
def cxThr {σ : Type} (p : Program) (l : Launch) (e : Env) (rm : Nat × Nat) (k : Nat) (s : State) (m : MethodId) (av : List Value) (below : List Frame) (meth : Method) (c : Code) (cc : ByteArray) (G : va_G) (Wd : σ → va_W) (Aa : Nat → Prop) (own : String) (postx : String → σ → Prop) (Q : State → Prop) : Prop :=
  ∀ (pc : Nat) (ls : Array Slot) (H : Heap) (locs : List Loc) (u' : σ) (cells slots : Nat) (cls text : String) (ik is ic sa : Nat), Bundle.fit cls = true → (Cond.classLink own ik cls).before av.toArray s = true → (Cond.initialized cls).before av.toArray s = true → vk_R own is text sa s → (∀ w ∈ vx_atS own ic cls nmX, w.before av.toArray s = true) → (∀ w ∈ Cond.classLink own ik cls :: Cond.initialized cls :: vx_atS own ic cls nmX, vx_ot w = true) → ls.size = c.maxLocals →
    decode cc pc = .ok (.new ik, 3) → decode cc (pc + 3) = .ok (.dup, 1) → decode cc (pc + 4) = .ok (.ldc is, 2) → decode cc (pc + 6) = .ok (.invokespecial ic, 3) → decode cc (pc + 9) = .ok (.athrow, 1) → cells + 1 ≤ k → slots + 6 ≤ 6 * k → postx cls u' → va_P G vwCl (Wd u') H → va_D Aa (Wd u') → va_S Aa s.heap H locs → W p l e (cxR rm k) s m av.toArray below meth c H locs cells slots Q (F0 m pc ls [])
def cxThN {σ : Type} (p : Program) (l : Launch) (e : Env) (rm : Nat × Nat) (k : Nat) (s : State) (m : MethodId) (av : List Value) (below : List Frame) (meth : Method) (c : Code) (cc : ByteArray) (G : va_G) (Wd : σ → va_W) (Aa : Nat → Prop) (own : String) (postx : String → σ → Prop) (Q : State → Prop) : Prop :=
  ∀ (pc : Nat) (ls : Array Slot) (H : Heap) (locs : List Loc) (u' : σ) (cells slots : Nat) (cls text : String) (ik is ic ix sa : Nat) (rx : ByteArray), decode rx 0 = .ok (.aload_n 0, 1) → decode rx 1 = .ok (.aload_n 1, 1) → decode rx 2 = .ok (.invokespecial ix, 3) → decode rx 5 = .ok (.return_, 1) → Bundle.fit cls = true → (Cond.classLink own ik cls).before av.toArray s = true → (Cond.initialized cls).before av.toArray s = true → vk_R own is text sa s → (∀ w ∈ vx_atN own ic cls ix rx nmX, w.before av.toArray s = true) → (∀ w ∈ Cond.classLink own ik cls :: Cond.initialized cls :: vx_atN own ic cls ix rx nmX, vx_ot w = true) → ls.size = c.maxLocals →
    decode cc pc = .ok (.new ik, 3) → decode cc (pc + 3) = .ok (.dup, 1) → decode cc (pc + 4) = .ok (.ldc is, 2) → decode cc (pc + 6) = .ok (.invokespecial ic, 3) → decode cc (pc + 9) = .ok (.athrow, 1) → cells + 1 ≤ k → slots + 6 ≤ 6 * k → postx cls u' → va_P G vwCl (Wd u') H → va_D Aa (Wd u') → va_S Aa s.heap H locs → W p l e (cxR rm k) s m av.toArray below meth c H locs cells slots Q (F0 m pc ls [])
def cxOut {σ : Type} (p : Program) (l : Launch) (e : Env) (rm : Nat × Nat) (k : Nat) (s : State) (m : MethodId) (av : List Value) (below : List Frame) (meth : Method) (c : Code) (G : va_G) (Wd : σ → va_W) (Aa : Nat → Prop) (postx : String → σ → Prop) (Q : State → Prop) : Prop :=
  ∀ (pc : Nat) (ls : Array Slot) (H : Heap) (locs : List Loc) (rest : List Value) (E : String) (ce : Cell) (q : Addr) (u' : σ) (cells slots : Nat), cells ≤ k → slots ≤ 6 * k → H[q]? = some ce → ce.vm = .none → s.vm.findClass E = some ce.cls → postx E u' → va_P G vwCl (Wd u') H → va_D Aa (Wd u') → va_S Aa s.heap H locs → vx_W p l e (cxR rm k) s m av.toArray below meth c H locs cells slots Q (F0 m pc ls rest) q
theorem cx_head {σ : Type} {l : Launch} {G : va_G} {tys : List (ClassId × FieldType)} {Wd : σ → va_W} {y : MethodName} {ws ws' : List Cond} {rm : Nat × Nat} {k : Nat} {av : List Value} {u : σ} {sz : Nat} {Qc : Array Value → State → Outcome → State → Prop} {postx : String → σ → Prop} {cc : ByteArray} {maxL : Nat} {ret : Option FieldType}
    (hl : l.stackTraces = false) (hr1 : 5 < rm.1) (hr2 : 82 ≤ rm.2)
    (hy : plainName y.cls = true) (hw : ws = Cond.code y cc maxL ret :: ws') (hav : (lg_sl av).length ≤ maxL)
    (body : ∀ (p : Program) (e : Env) (s : State) (m : MethodId) (below : List Frame) (meth : Method) (c : Code) (ls : Array Slot), CallFix p m c cc maxL s av.toArray ws y.cls → meth.sig.returnType = ret → meth.locks = false → va_K G vwCl tys s → nwOK s → exP (va_A (Wd u) sz) s s.heap → va_P G vwCl (Wd u) s.heap → va_D (va_A (Wd u) sz) (Wd u) → (∀ q, s.heap.size ≤ q → (va_A (Wd u) sz) q) → lv_has ls maxL (lv_args 0 av) →
      cxThr p l e rm k s m av below meth c cc G Wd (va_A (Wd u) sz) y.cls postx (vx_MQ below Qc (cxX G tys Wd (va_A (Wd u) sz) postx) av.toArray s k (6 * k) (va_A (Wd u) sz)) →
      cxThN p l e rm k s m av below meth c cc G Wd (va_A (Wd u) sz) y.cls postx (vx_MQ below Qc (cxX G tys Wd (va_A (Wd u) sz) postx) av.toArray s k (6 * k) (va_A (Wd u) sz)) →
      cxOut p l e rm k s m av below meth c G Wd (va_A (Wd u) sz) postx (vx_MQ below Qc (cxX G tys Wd (va_A (Wd u) sz) postx) av.toArray s k (6 * k) (va_A (Wd u) sz)) →
      W p l e (cxR rm k) s m av.toArray below meth c s.heap [] 0 0 (vx_MQ below Qc (cxX G tys Wd (va_A (Wd u) sz) postx) av.toArray s k (6 * k) (va_A (Wd u) sz)) (F0 m 0 ls [])) : vx_Met l y ws (cxR rm k) (cxP G tys Wd av u sz) Qc (cxX G tys Wd (va_A (Wd u) sz) postx) k (6 * k) (va_A (Wd u) sz) := by
  refine vx_ofW (cc := cc) (maxL := maxL) (ret := ret) hy hw ?_
  intro p e s m args below meth c s₁ B hml ht hv
  obtain ⟨rfl, hsz, hP, hK, hD0, hN, hX⟩ := hv
  have hts := atoms_spec (ws := ws) B.pre
  have hown : s.vm.findClass y.cls = some m.cls := findClass_of_methodNamed B.named
  have hD := hD0.self (sz := sz)
  have hA : ∀ q : Nat, s.heap.size ≤ q → va_A (Wd u) sz q := fun q h => Or.inr (hsz ▸ h)
  have hlv := lv_entry av (n := maxL) hav
  rw [lg_entry_eq]
  refine body p e s m below meth c _ ⟨B.exec, B.bytes, hml, hown, hts⟩ B.returns B.notSynchronized hK hN hX hP hD hA hlv ?_ ?_ ?_
  · intro pc ls H locs u' cells slots cls text ik is ic sa h1 h2 h3 h4 h5 h6 h7 d0 d3 d4 d6 d9 hc hs hpx hP1 hD1 hS1
    refine vx_throwS B.exec B.bytes hl hown h1 (by decide) h2 h3 h4 h5 h6 hX.2.1 hX.2.2 hS1 h7 d0 d3 d4 d6 d9 (fun x hx => (ht x hx).elim) hr1 (by show 0 + (13 * 3 + 43) ≤ rm.2; omega) hc hs B.notSynchronized (fun t hvm hz hk => ?_) hS1.2.2 hc hs
    refine ⟨u', trivial, ⟨hpx, va_P.kept hP1 (fun k q hq => hk _ (vx_lt hP1 hq)), va_K.moved hvm hK, hD1⟩, Nat.le_trans hS1.1 hz, fun q h9 h8 => ?_⟩
    rw [hk q (Nat.lt_of_lt_of_le h9 hS1.1)]; exact hS1.2.1 q h9 h8
  · intro pc ls H locs u' cells slots cls text ik is ic ix sa rx x0 x1 x2 x5 h1 h2 h3 h4 h5 h6 h7 d0 d3 d4 d6 d9 hc hs hpx hP1 hD1 hS1
    refine vx_throwN B.exec B.bytes hl x0 x1 x2 x5 hown h1 (by decide) h2 h3 h4 h5 h6 hX.2.1 hX.2.2 hS1 h7 d0 d3 d4 d6 d9 (fun x hx => (ht x hx).elim) hr1 (by show 0 + (13 * 3 + 43) ≤ rm.2; omega) hc hs B.notSynchronized (fun t hvm hz hk => ?_) hS1.2.2 hc hs
    refine ⟨u', trivial, ⟨hpx, va_P.kept hP1 (fun k q hq => hk _ (vx_lt hP1 hq)), va_K.moved hvm hK, hD1⟩, Nat.le_trans hS1.1 hz, fun q h9 h8 => ?_⟩
    rw [hk q (Nat.lt_of_lt_of_le h9 hS1.1)]; exact hS1.2.1 q h9 h8
  · intro pc ls H locs rest E ce q u' cells slots hc hs h1 h2 h3 hpx hP1 hD1 hS1
    exact vx_out (fun x hx => (ht x hx).elim) B.notSynchronized h1 h2 h3 (fun t hth hvm => ⟨u', trivial, ⟨hpx, by rw [hth]; exact hP1, va_K.moved hvm hK, hD1⟩, hS1.F hth⟩) hS1.2.2 hc hs
theorem cxI_intro {σ : Type} {l : Launch} {G : va_G} {tys : List (ClassId × FieldType)} {Wd : σ → va_W} {y : MethodName} {ws ws' : List Cond} {rm : Nat × Nat} {k : Nat} {av : List Value} {u : σ} {post : Int32 → σ → Prop} {postx : String → σ → Prop} {cc : ByteArray} {maxL : Nat} {ty : FieldType}
    (hlt : l.stackTraces = false) (hr1 : 5 < rm.1) (hr2 : 82 ≤ rm.2) (hy : plainName y.cls = true) (hw : ws = Cond.code y cc maxL (some ty) :: ws') (hav : (lg_sl av).length ≤ maxL)
    (body : ∀ (p : Program) (e : Env) (s : State) (m : MethodId) (below : List Frame) (meth : Method) (c : Code) (ls : Array Slot) (Aa : Nat → Prop) (Q : State → Prop), CallFix p m c cc maxL s av.toArray ws y.cls → va_K G vwCl tys s → nwOK s → exP Aa s s.heap → va_P G vwCl (Wd u) s.heap → va_D Aa (Wd u) → va_S Aa s.heap s.heap [] → (∀ q, s.heap.size ≤ q → Aa q) → lv_has ls maxL (lv_args 0 av) →
      (∀ (pc : Nat) (ls : Array Slot) (H : Heap) (locs : List Loc) (v : Int32) (u' : σ) (cells slots : Nat), cells ≤ k → slots ≤ 6 * k → decode cc pc = .ok (.ireturn, 1) → narrow ty (.int v) = .int v → post v u' → va_P G vwCl (Wd u') H → va_D Aa (Wd u') → va_S Aa s.heap H locs → W p l e (cxR rm k) s m av.toArray below meth c H locs cells slots Q (F0 m pc ls [.int v])) →
      cxThr p l e rm k s m av below meth c cc G Wd Aa y.cls postx Q → cxThN p l e rm k s m av below meth c cc G Wd Aa y.cls postx Q → cxOut p l e rm k s m av below meth c G Wd Aa postx Q →
      W p l e (cxR rm k) s m av.toArray below meth c s.heap [] 0 0 Q (F0 m 0 ls [])) : cxI l G tys Wd y ws rm k av u post postx := by
  intro sz
  refine cx_head (cc := cc) (maxL := maxL) (ret := some ty) hlt hr1 hr2 hy hw hav ?_
  intro p e s m below meth c ls F hr hlocks hK hN hX hP hD hA hl ht hn9 ho
  refine body p e s m below meth c ls (va_A (Wd u) sz) _ F hK hN hX hP hD va_S.rf hA hl ?_ ht hn9 ho
  intro pc ls H locs v u' cells slots hc hs hd hn hp hP hD hS
  exact W.widen hc hs (vx_ret (W.zret F.1 F.2.1 hr hn (fun t ht hW => ⟨⟨v, u', rfl, hp, by rw [ht]; exact hP, va_K.moved hW.alike hK, hD⟩, hS.F ht⟩) hS.2.2 hd hlocks))
theorem cxL_intro {σ : Type} {l : Launch} {G : va_G} {tys : List (ClassId × FieldType)} {Wd : σ → va_W} {y : MethodName} {ws ws' : List Cond} {rm : Nat × Nat} {k : Nat} {av : List Value} {u : σ} {post : Int64 → σ → Prop} {postx : String → σ → Prop} {cc : ByteArray} {maxL : Nat}
    (hlt : l.stackTraces = false) (hr1 : 5 < rm.1) (hr2 : 82 ≤ rm.2) (hy : plainName y.cls = true) (hw : ws = Cond.code y cc maxL (some .long) :: ws') (hav : (lg_sl av).length ≤ maxL)
    (body : ∀ (p : Program) (e : Env) (s : State) (m : MethodId) (below : List Frame) (meth : Method) (c : Code) (ls : Array Slot) (Aa : Nat → Prop) (Q : State → Prop), CallFix p m c cc maxL s av.toArray ws y.cls → va_K G vwCl tys s → nwOK s → exP Aa s s.heap → va_P G vwCl (Wd u) s.heap → va_D Aa (Wd u) → va_S Aa s.heap s.heap [] → (∀ q, s.heap.size ≤ q → Aa q) → lv_has ls maxL (lv_args 0 av) →
      (∀ (pc : Nat) (ls : Array Slot) (H : Heap) (locs : List Loc) (v : Int64) (u' : σ) (cells slots : Nat), cells ≤ k → slots ≤ 6 * k → decode cc pc = .ok (.lreturn, 1) → post v u' → va_P G vwCl (Wd u') H → va_D Aa (Wd u') → va_S Aa s.heap H locs → W p l e (cxR rm k) s m av.toArray below meth c H locs cells slots Q (F0 m pc ls [.long v])) →
      cxThr p l e rm k s m av below meth c cc G Wd Aa y.cls postx Q → cxThN p l e rm k s m av below meth c cc G Wd Aa y.cls postx Q → cxOut p l e rm k s m av below meth c G Wd Aa postx Q →
      W p l e (cxR rm k) s m av.toArray below meth c s.heap [] 0 0 Q (F0 m 0 ls [])) : cxL l G tys Wd y ws rm k av u post postx := by
  intro sz
  refine cx_head (cc := cc) (maxL := maxL) (ret := some .long) hlt hr1 hr2 hy hw hav ?_
  intro p e s m below meth c ls F hr hlocks hK hN hX hP hD hA hl ht hn9 ho
  refine body p e s m below meth c ls (va_A (Wd u) sz) _ F hK hN hX hP hD va_S.rf hA hl ?_ ht hn9 ho
  intro pc ls H locs v u' cells slots hc hs hd hp hP hD hS
  exact W.widen hc hs (vx_ret (W.lret F.1 F.2.1 hr (fun t ht hW => ⟨⟨v, u', rfl, hp, by rw [ht]; exact hP, va_K.moved hW.alike hK, hD⟩, hS.F ht⟩) hS.2.2 hd hlocks))
theorem cxV_intro {σ : Type} {l : Launch} {G : va_G} {tys : List (ClassId × FieldType)} {Wd : σ → va_W} {y : MethodName} {ws ws' : List Cond} {rm : Nat × Nat} {k : Nat} {av : List Value} {u : σ} {post : σ → Prop} {postx : String → σ → Prop} {cc : ByteArray} {maxL : Nat}
    (hlt : l.stackTraces = false) (hr1 : 5 < rm.1) (hr2 : 82 ≤ rm.2) (hy : plainName y.cls = true) (hw : ws = Cond.code y cc maxL none :: ws') (hav : (lg_sl av).length ≤ maxL)
    (body : ∀ (p : Program) (e : Env) (s : State) (m : MethodId) (below : List Frame) (meth : Method) (c : Code) (ls : Array Slot) (Aa : Nat → Prop) (Q : State → Prop), CallFix p m c cc maxL s av.toArray ws y.cls → va_K G vwCl tys s → nwOK s → exP Aa s s.heap → va_P G vwCl (Wd u) s.heap → va_D Aa (Wd u) → va_S Aa s.heap s.heap [] → (∀ q, s.heap.size ≤ q → Aa q) → lv_has ls maxL (lv_args 0 av) →
      (∀ (pc : Nat) (ls : Array Slot) (H : Heap) (locs : List Loc) (u' : σ) (cells slots : Nat), cells ≤ k → slots ≤ 6 * k → decode cc pc = .ok (.return_, 1) → post u' → va_P G vwCl (Wd u') H → va_D Aa (Wd u') → va_S Aa s.heap H locs → W p l e (cxR rm k) s m av.toArray below meth c H locs cells slots Q (F0 m pc ls [])) →
      cxThr p l e rm k s m av below meth c cc G Wd Aa y.cls postx Q → cxThN p l e rm k s m av below meth c cc G Wd Aa y.cls postx Q → cxOut p l e rm k s m av below meth c G Wd Aa postx Q →
      W p l e (cxR rm k) s m av.toArray below meth c s.heap [] 0 0 Q (F0 m 0 ls [])) : cxV l G tys Wd y ws rm k av u post postx := by
  intro sz
  refine cx_head (cc := cc) (maxL := maxL) (ret := none) hlt hr1 hr2 hy hw hav ?_
  intro p e s m below meth c ls F hr hlocks hK hN hX hP hD hA hl ht hn9 ho
  refine body p e s m below meth c ls (va_A (Wd u) sz) _ F hK hN hX hP hD va_S.rf hA hl ?_ ht hn9 ho
  intro pc ls H locs u' cells slots hc hs hd hp hP hD hS
  exact W.widen hc hs (vx_ret (W.vret F.1 F.2.1 hr (fun t ht hW => ⟨⟨u', rfl, hp, by rw [ht]; exact hP, va_K.moved hW.alike hK, hD⟩, hS.F ht⟩) hS.2.2 hd hlocks))
section CX
variable {p : Program} {l : Launch} {e : Env} {R : Room} {s : State} {m : MethodId} {args : Array Value} {below : List Frame} {meth : Method} {c : Code} {H : Heap} {locs : List Loc} {cells slots mc ms : Nat} {Q : State → Prop} {pc : Nat} {ls : Array Slot} {st0 rest : List Value} {A : Nat → Prop} {H0 : Heap} {a : Array Value}
theorem cx_callv {σ : Type} {G : va_G} {tys : List (ClassId × FieldType)} {Wd : σ → va_W} {u : σ} {post : σ → Prop} {postx : String → σ → Prop}
    (hD : va_D A (Wd u)) (hS : va_S A H0 H locs) (hA : ∀ q, H0.size ≤ q → A q)
    (hr : vx_Run p l e R s m args below meth c H locs cells slots mc ms (F0 m pc ls st0) rest (va_Qv post (ctB G tys Wd (va_A (Wd u) H.size)) (va_A (Wd u) H.size) a) (cxX G tys Wd (va_A (Wd u) H.size) postx) (va_A (Wd u) H.size))
    (kx : ∀ (E : String) (ce : Cell) (q9 : Addr) (u' : σ) (H1 : Heap) (locs1 : List Loc), H1[q9]? = some ce → ce.vm = .none → s.vm.findClass E = some ce.cls → postx E u' → va_P G vwCl (Wd u') H1 → va_D A (Wd u') → va_S A H0 H1 locs1 → vx_W p l e R s m args below meth c H1 locs1 (cells + mc) (slots + ms) Q (F0 m pc ls rest) q9)
    (kk : ∀ (u' : σ) (H1 : Heap) (locs1 : List Loc), post u' → va_P G vwCl (Wd u') H1 → va_D A (Wd u') → va_S A H0 H1 locs1 → W p l e R s m args below meth c H1 locs1 (cells + mc) (slots + ms) Q (F0 m (pc + 3) ls rest)) : W p l e R s m args below meth c H locs cells slots Q (F0 m pc ls st0) := by
  have hF := ct_free hD hS hA
  refine vx_callv hr hS (fun q _ h => hF q h) hF (fun q _ h => hF q h) (fun E ce q9 u1 t H1 locs1 ht hvm _ hB hz1 hk1 hS1 h1 h2 h3 => ?_) (fun u1 t H1 locs1 ht hvm hw hB hz1 hk1 hS1 => ?_)
  · obtain ⟨hpx, hP1, hK1, hD1⟩ := hB
    rw [ht] at hP1
    exact kx E ce q9 u1 H1 locs1 h1 h2 h3 hpx hP1 (hD1.weaken (fun k q h _ => hF _ (hD1.2 k q h))) hS1
  · obtain ⟨hP1, hK1, hD1⟩ := hB
    rw [ht] at hP1
    exact kk u1 H1 locs1 hw hP1 (hD1.weaken (fun k q h _ => hF _ (hD1.2 k q h))) hS1
theorem cx_calli {σ : Type} {G : va_G} {tys : List (ClassId × FieldType)} {Wd : σ → va_W} {u : σ} {post : Int32 → σ → Prop} {postx : String → σ → Prop}
    (hD : va_D A (Wd u)) (hS : va_S A H0 H locs) (hA : ∀ q, H0.size ≤ q → A q)
    (hr : vx_Run p l e R s m args below meth c H locs cells slots mc ms (F0 m pc ls st0) rest (va_Qi post (ctB G tys Wd (va_A (Wd u) H.size)) (va_A (Wd u) H.size) a) (cxX G tys Wd (va_A (Wd u) H.size) postx) (va_A (Wd u) H.size))
    (kx : ∀ (E : String) (ce : Cell) (q9 : Addr) (u' : σ) (H1 : Heap) (locs1 : List Loc), H1[q9]? = some ce → ce.vm = .none → s.vm.findClass E = some ce.cls → postx E u' → va_P G vwCl (Wd u') H1 → va_D A (Wd u') → va_S A H0 H1 locs1 → vx_W p l e R s m args below meth c H1 locs1 (cells + mc) (slots + ms) Q (F0 m pc ls rest) q9)
    (kk : ∀ (r : Int32) (u' : σ) (H1 : Heap) (locs1 : List Loc), post r u' → va_P G vwCl (Wd u') H1 → va_D A (Wd u') → va_S A H0 H1 locs1 → W p l e R s m args below meth c H1 locs1 (cells + mc) (slots + ms) Q (F0 m (pc + 3) ls (.int r :: rest))) : W p l e R s m args below meth c H locs cells slots Q (F0 m pc ls st0) := by
  have hF := ct_free hD hS hA
  refine vx_calli hr hS (fun q _ h => hF q h) hF (fun q _ h => hF q h) (fun E ce q9 u1 t H1 locs1 ht hvm _ hB hz1 hk1 hS1 h1 h2 h3 => ?_) (fun r u1 t H1 locs1 ht hvm hw hB hz1 hk1 hS1 => ?_)
  · obtain ⟨hpx, hP1, hK1, hD1⟩ := hB
    rw [ht] at hP1
    exact kx E ce q9 u1 H1 locs1 h1 h2 h3 hpx hP1 (hD1.weaken (fun k q h _ => hF _ (hD1.2 k q h))) hS1
  · obtain ⟨hP1, hK1, hD1⟩ := hB
    rw [ht] at hP1
    exact kk r u1 H1 locs1 hw hP1 (hD1.weaken (fun k q h _ => hF _ (hD1.2 k q h))) hS1
theorem cx_calll {σ : Type} {G : va_G} {tys : List (ClassId × FieldType)} {Wd : σ → va_W} {u : σ} {post : Int64 → σ → Prop} {postx : String → σ → Prop}
    (hD : va_D A (Wd u)) (hS : va_S A H0 H locs) (hA : ∀ q, H0.size ≤ q → A q)
    (hr : vx_Run p l e R s m args below meth c H locs cells slots mc ms (F0 m pc ls st0) rest (va_Ql post (ctB G tys Wd (va_A (Wd u) H.size)) (va_A (Wd u) H.size) a) (cxX G tys Wd (va_A (Wd u) H.size) postx) (va_A (Wd u) H.size))
    (kx : ∀ (E : String) (ce : Cell) (q9 : Addr) (u' : σ) (H1 : Heap) (locs1 : List Loc), H1[q9]? = some ce → ce.vm = .none → s.vm.findClass E = some ce.cls → postx E u' → va_P G vwCl (Wd u') H1 → va_D A (Wd u') → va_S A H0 H1 locs1 → vx_W p l e R s m args below meth c H1 locs1 (cells + mc) (slots + ms) Q (F0 m pc ls rest) q9)
    (kk : ∀ (r : Int64) (u' : σ) (H1 : Heap) (locs1 : List Loc), post r u' → va_P G vwCl (Wd u') H1 → va_D A (Wd u') → va_S A H0 H1 locs1 → W p l e R s m args below meth c H1 locs1 (cells + mc) (slots + ms) Q (F0 m (pc + 3) ls (.long r :: rest))) : W p l e R s m args below meth c H locs cells slots Q (F0 m pc ls st0) := by
  have hF := ct_free hD hS hA
  refine vx_calll hr hS (fun q _ h => hF q h) hF (fun q _ h => hF q h) (fun E ce q9 u1 t H1 locs1 ht hvm _ hB hz1 hk1 hS1 h1 h2 h3 => ?_) (fun r u1 t H1 locs1 ht hvm hw hB hz1 hk1 hS1 => ?_)
  · obtain ⟨hpx, hP1, hK1, hD1⟩ := hB
    rw [ht] at hP1
    exact kx E ce q9 u1 H1 locs1 h1 h2 h3 hpx hP1 (hD1.weaken (fun k q h _ => hF _ (hD1.2 k q h))) hS1
  · obtain ⟨hP1, hK1, hD1⟩ := hB
    rw [ht] at hP1
    exact kk r u1 H1 locs1 hw hP1 (hD1.weaken (fun k q h _ => hF _ (hD1.2 k q h))) hS1
end CX
