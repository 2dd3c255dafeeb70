-- calls over a part of the world
theorem P_l {G : va_G} {cl : List vw_C} {w r : va_W} {H : Heap} (h : va_P G cl (w ++ r) H) : va_P G cl w H := fun k x hx => h k x (by rw [List.getElem?_append_left (List.getElem?_eq_some_iff.mp hx).1]; exact hx)
theorem P_r {G : va_G} {cl : List vw_C} {w r : va_W} {H : Heap} (h : va_P G cl (w ++ r) H) : va_P G cl r H := fun k x hx => h (w.length + k) x (by rw [List.getElem?_append_right (by omega), Nat.add_sub_cancel_left]; exact hx)
theorem D_l {A : Nat → Prop} {w r : va_W} (h : va_D A (w ++ r)) : va_D A w := by
  rw [va_D_iff] at h ⊢
  rw [List.map_append, List.nodup_append] at h
  exact ⟨h.1.1, fun q hq => h.2 q (List.mem_append_left _ hq)⟩
theorem D_r {A : Nat → Prop} {w r : va_W} (h : va_D A (w ++ r)) : va_D A r := by
  rw [va_D_iff] at h ⊢
  rw [List.map_append, List.nodup_append] at h
  exact ⟨h.1.2.1, fun q hq => h.2 q (List.mem_append_right _ hq)⟩
theorem D_x {A : Nat → Prop} {w r : va_W} (h : va_D A (w ++ r)) {p q : Nat × va_E} (hp : p ∈ w) (hq : q ∈ r) : p.1 ≠ q.1 := by
  rw [va_D_iff, List.map_append, List.nodup_append] at h
  exact h.1.2.2 p.1 (List.mem_map.mpr ⟨p, hp, rfl⟩) q.1 (List.mem_map.mpr ⟨q, hq, rfl⟩)
theorem fr_not {G : va_G} {A : Nat → Prop} {w r : va_W} {H : Heap} (hP : va_P G vwCl (w ++ r) H) (hD : va_D A (w ++ r)) {q : Nat × va_E} (hq : q ∈ r) : ¬ va_A w H.size q.1 := by
  rintro (⟨j, e, hj⟩ | h)
  · exact D_x hD (List.mem_of_getElem? hj) hq rfl
  · obtain ⟨k, hk⟩ := List.mem_iff_getElem?.mp hq
    have := vx_lt (P_r hP) hk
    omega
theorem fr_after {G : va_G} {A : Nat → Prop} {w w' r : va_W} {H H1 H0 : Heap} {locs : List Loc} (hP : va_P G vwCl (w ++ r) H) (hD : va_D A (w ++ r)) (hS : va_S A H0 H locs) (hA : ∀ q, H0.size ≤ q → A q) (hk : ∀ q : Nat, q < H.size → ¬ va_A w H.size q → H1[q]? = H[q]?) (hP1 : va_P G vwCl w' H1) (hD1 : va_D (va_A w H.size) w') : va_P G vwCl (w' ++ r) H1 ∧ va_D A (w' ++ r) := by
  refine ⟨hP1.app ((P_r hP).kept (fun k q hq => hk _ (vx_lt (P_r hP) hq) (fr_not hP hD (List.mem_of_getElem? hq)))), (hD1.weaken (fun k q h _ => ct_free (D_l hD) hS hA _ (hD1.2 k q h))).app (D_r hD) (fun i j p q hp hq e => ?_)⟩
  exact fr_not hP hD (List.mem_of_getElem? hq) (by rw [← e]; exact hD1.2 i p hp)
section FX
variable {p : Program} {l : Launch} {e : Env} {R : Room} {s : State} {m : MethodId} {args : Array Value} {below : List Frame} {meth : Method} {c : Code} {H : Heap} {locs : List Loc} {cells slots mc ms : Nat} {Q : State → Prop} {pc : Nat} {ls : Array Slot} {st0 rest : List Value} {A : Nat → Prop} {H0 : Heap} {a : Array Value} {wr : va_W}
theorem fx_calli {σ : Type} {G : va_G} {tys : List (ClassId × FieldType)} {Wd : σ → va_W} {u : σ} {post : Int32 → σ → Prop} {postx : String → σ → Prop}
    (hP : va_P G vwCl (Wd u ++ wr) H) (hD : va_D A (Wd u ++ wr)) (hS : va_S A H0 H locs) (hA : ∀ q, H0.size ≤ q → A q)
    (hr : vx_Run p l e R s m args below meth c H locs cells slots mc ms (F0 m pc ls st0) rest (va_Qi post (ctB G tys Wd (va_A (Wd u) H.size)) (va_A (Wd u) H.size) a) (cxX G tys Wd (va_A (Wd u) H.size) postx) (va_A (Wd u) H.size))
    (kx : ∀ (E : String) (ce : Cell) (q9 : Addr) (u' : σ) (H1 : Heap) (locs1 : List Loc), H1[q9]? = some ce → ce.vm = .none → s.vm.findClass E = some ce.cls → postx E u' → va_P G vwCl (Wd u' ++ wr) H1 → va_D A (Wd u' ++ wr) → va_S A H0 H1 locs1 → vx_W p l e R s m args below meth c H1 locs1 (cells + mc) (slots + ms) Q (F0 m pc ls rest) q9)
    (kk : ∀ (r : Int32) (u' : σ) (H1 : Heap) (locs1 : List Loc), post r u' → va_P G vwCl (Wd u' ++ wr) H1 → va_D A (Wd u' ++ wr) → va_S A H0 H1 locs1 → W p l e R s m args below meth c H1 locs1 (cells + mc) (slots + ms) Q (F0 m (pc + 3) ls (.int r :: rest))) : W p l e R s m args below meth c H locs cells slots Q (F0 m pc ls st0) := by
  have hF := ct_free (D_l hD) hS hA
  refine vx_calli hr hS (fun q _ h => hF q h) hF (fun q _ h => hF q h) (fun E ce q9 u1 t H1 locs1 ht hvm _ hB hz1 hk1 hS1 h1 h2 h3 => ?_) (fun r u1 t H1 locs1 ht hvm hw hB hz1 hk1 hS1 => ?_)
  · obtain ⟨hpx, hP1, hK1, hD1⟩ := hB
    rw [ht] at hP1
    obtain ⟨a1, a2⟩ := fr_after hP hD hS hA hk1 hP1 hD1
    exact kx E ce q9 u1 H1 locs1 h1 h2 h3 hpx a1 a2 hS1
  · obtain ⟨hP1, hK1, hD1⟩ := hB
    rw [ht] at hP1
    obtain ⟨a1, a2⟩ := fr_after hP hD hS hA hk1 hP1 hD1
    exact kk r u1 H1 locs1 hw a1 a2 hS1
theorem fx_calll {σ : Type} {G : va_G} {tys : List (ClassId × FieldType)} {Wd : σ → va_W} {u : σ} {post : Int64 → σ → Prop} {postx : String → σ → Prop}
    (hP : va_P G vwCl (Wd u ++ wr) H) (hD : va_D A (Wd u ++ wr)) (hS : va_S A H0 H locs) (hA : ∀ q, H0.size ≤ q → A q)
    (hr : vx_Run p l e R s m args below meth c H locs cells slots mc ms (F0 m pc ls st0) rest (va_Ql post (ctB G tys Wd (va_A (Wd u) H.size)) (va_A (Wd u) H.size) a) (cxX G tys Wd (va_A (Wd u) H.size) postx) (va_A (Wd u) H.size))
    (kx : ∀ (E : String) (ce : Cell) (q9 : Addr) (u' : σ) (H1 : Heap) (locs1 : List Loc), H1[q9]? = some ce → ce.vm = .none → s.vm.findClass E = some ce.cls → postx E u' → va_P G vwCl (Wd u' ++ wr) H1 → va_D A (Wd u' ++ wr) → va_S A H0 H1 locs1 → vx_W p l e R s m args below meth c H1 locs1 (cells + mc) (slots + ms) Q (F0 m pc ls rest) q9)
    (kk : ∀ (r : Int64) (u' : σ) (H1 : Heap) (locs1 : List Loc), post r u' → va_P G vwCl (Wd u' ++ wr) H1 → va_D A (Wd u' ++ wr) → va_S A H0 H1 locs1 → W p l e R s m args below meth c H1 locs1 (cells + mc) (slots + ms) Q (F0 m (pc + 3) ls (.long r :: rest))) : W p l e R s m args below meth c H locs cells slots Q (F0 m pc ls st0) := by
  have hF := ct_free (D_l hD) hS hA
  refine vx_calll hr hS (fun q _ h => hF q h) hF (fun q _ h => hF q h) (fun E ce q9 u1 t H1 locs1 ht hvm _ hB hz1 hk1 hS1 h1 h2 h3 => ?_) (fun r u1 t H1 locs1 ht hvm hw hB hz1 hk1 hS1 => ?_)
  · obtain ⟨hpx, hP1, hK1, hD1⟩ := hB
    rw [ht] at hP1
    obtain ⟨a1, a2⟩ := fr_after hP hD hS hA hk1 hP1 hD1
    exact kx E ce q9 u1 H1 locs1 h1 h2 h3 hpx a1 a2 hS1
  · obtain ⟨hP1, hK1, hD1⟩ := hB
    rw [ht] at hP1
    obtain ⟨a1, a2⟩ := fr_after hP hD hS hA hk1 hP1 hD1
    exact kk r u1 H1 locs1 hw a1 a2 hS1
theorem ft_calli {σ : Type} {G : va_G} {tys : List (ClassId × FieldType)} {Wd : σ → va_W} {u : σ} {post : Int32 → σ → Prop}
    (hP : va_P G vwCl (Wd u ++ wr) H) (hD : va_D A (Wd u ++ wr)) (hS : va_S A H0 H locs) (hA : ∀ q, H0.size ≤ q → A q)
    (hr : va_Run p l e R s m args below meth c H locs cells slots 0 0 (F0 m pc ls st0) rest (va_Qi post (ctB G tys Wd (va_A (Wd u) H.size)) (va_A (Wd u) H.size) a) (va_A (Wd u) H.size))
    (kk : ∀ (r : Int32) (u' : σ) (H1 : Heap) (locs1 : List Loc), post r u' → va_P G vwCl (Wd u' ++ wr) H1 → va_D A (Wd u' ++ wr) → va_S A H0 H1 locs1 → W p l e R s m args below meth c H1 locs1 cells slots Q (F0 m (pc + 3) ls (.int r :: rest))) : W p l e R s m args below meth c H locs cells slots Q (F0 m pc ls st0) := by
  have hF := ct_free (D_l hD) hS hA
  refine va_calli hr hS (fun q _ h => hF q h) hF (fun r u1 t H1 locs1 ht hvm hw hB hz1 hk1 hS1 => ?_)
  obtain ⟨hP1, hK1, hD1⟩ := hB
  rw [ht] at hP1
  obtain ⟨a1, a2⟩ := fr_after hP hD hS hA hk1 hP1 hD1
  exact kk r u1 H1 locs1 hw a1 a2 hS1
theorem ft_calll {σ : Type} {G : va_G} {tys : List (ClassId × FieldType)} {Wd : σ → va_W} {u : σ} {post : Int64 → σ → Prop}
    (hP : va_P G vwCl (Wd u ++ wr) H) (hD : va_D A (Wd u ++ wr)) (hS : va_S A H0 H locs) (hA : ∀ q, H0.size ≤ q → A q)
    (hr : va_Run p l e R s m args below meth c H locs cells slots 0 0 (F0 m pc ls st0) rest (va_Ql post (ctB G tys Wd (va_A (Wd u) H.size)) (va_A (Wd u) H.size) a) (va_A (Wd u) H.size))
    (kk : ∀ (r : Int64) (u' : σ) (H1 : Heap) (locs1 : List Loc), post r u' → va_P G vwCl (Wd u' ++ wr) H1 → va_D A (Wd u' ++ wr) → va_S A H0 H1 locs1 → W p l e R s m args below meth c H1 locs1 cells slots Q (F0 m (pc + 3) ls (.long r :: rest))) : W p l e R s m args below meth c H locs cells slots Q (F0 m pc ls st0) := by
  have hF := ct_free (D_l hD) hS hA
  refine va_calll hr hS (fun q _ h => hF q h) hF (fun r u1 t H1 locs1 ht hvm hw hB hz1 hk1 hS1 => ?_)
  obtain ⟨hP1, hK1, hD1⟩ := hB
  rw [ht] at hP1
  obtain ⟨a1, a2⟩ := fr_after hP hD hS hA hk1 hP1 hD1
  exact kk r u1 H1 locs1 hw a1 a2 hS1
end FX
-- the law's helpers: the house and the cell for the answer
abbrev sgL : Type := sgH × (Nat → Int64)
abbrev LW (cI cJ cII cJJ : ClassId) (R : Nat → Nat) (o : Nat) (u : sgL) : va_W := HW cI cJ cII cJJ R u.1 ++ [(o, aJ cJ 1 u.2)]
theorem cxW_intro {σ : Type} {l : Launch} {G : va_G} {tys : List (ClassId × FieldType)} {Wd : σ → va_W} {y : MethodName} {ws ws' : List Cond} {rm : Nat × Nat} {k : Nat} {av : List Value} {u : σ} {post : Int32 → σ → Prop} {cc : ByteArray} {maxL : Nat} {ty : FieldType} {hh : List (Nat × Nat × Nat × Nat)}
    (hy : plainName y.cls = true) (hw : ws = Cond.codeWith y cc maxL (some ty) hh :: ws') (hav : (lg_sl av).length ≤ maxL)
    (body : ∀ (p : Program) (e : Env) (s : State) (m : MethodId) (below : List Frame) (meth : Method) (c : Code) (ls : Array Slot) (Aa : Nat → Prop) (Q : State → Prop), CallFix p m c cc maxL s av.toArray ws y.cls → c.exceptionTable.toList = tableOf hh → va_K G vwCl tys s → nwOK s → exP Aa s s.heap → va_P G vwCl (Wd u) s.heap → va_D Aa (Wd u) → va_S Aa s.heap s.heap [] → (∀ q, s.heap.size ≤ q → Aa q) → lv_has ls maxL (lv_args 0 av) →
      (∀ (pc : Nat) (ls : Array Slot) (H : Heap) (locs : List Loc) (v : Int32) (u' : σ) (cells slots : Nat), cells ≤ k → slots ≤ 6 * k → decode cc pc = .ok (.ireturn, 1) → narrow ty (.int v) = .int v → post v u' → va_P G vwCl (Wd u') H → va_D Aa (Wd u') → va_S Aa s.heap H locs → W p l e (cxR rm k) s m av.toArray below meth c H locs cells slots Q (F0 m pc ls [.int v])) →
      W p l e (cxR rm k) s m av.toArray below meth c s.heap [] 0 0 Q (F0 m 0 ls [])) : cxI l G tys Wd y ws rm k av u post (fun _ _ => False) := by
  intro sz
  refine vx_ofWH (cc := cc) (maxL := maxL) (ret := some ty) (hh := hh) hy hw ?_
  intro p e s m args below meth c s₁ B hml hv
  obtain ⟨rfl, hsz, hP, hK, hD0, hN, hX⟩ := hv
  have hts := atoms_spec (ws := ws) B.pre
  have hown : s.vm.findClass y.cls = some m.cls := findClass_of_methodNamed B.named
  have hD := hD0.self (sz := sz)
  have hA : ∀ q : Nat, s.heap.size ≤ q → va_A (Wd u) sz q := fun q h => Or.inr (hsz ▸ h)
  have hlv := lv_entry av (n := maxL) hav
  rw [lg_entry_eq]
  refine body p e s m below meth c _ (va_A (Wd u) sz) _ ⟨B.exec, B.bytes, hml, hown, hts⟩ (vx_table (x := y) B (hts _ (by rw [hw]; exact List.mem_cons_self))) hK hN hX hP hD va_S.rf hA hlv ?_
  intro pc ls H locs v u' cells slots hc hs hd hn hp hP hD hS
  exact W.widen hc hs (vx_ret (W.zret B.exec B.bytes B.returns hn (fun t ht hW => ⟨⟨v, u', rfl, hp, by rw [ht]; exact hP, va_K.moved hW.alike hK, hD⟩, hS.F ht⟩) hS.2.2 hd B.notSynchronized))
