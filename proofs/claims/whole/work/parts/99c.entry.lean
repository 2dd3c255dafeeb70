-- the law's entry: what the tables and the start give
theorem nwF_in : ∀ q ∈ nwF, Cond.fieldLinkNest q.1 q.2.1 q.2.2.1 q.2.2.2.1 q.2.2.2.2.1 q.2.2.2.2.2 ∈ lw_tbl := by decide +kernel
theorem nwM_in : ∀ q ∈ nwM, Cond.methodLinkNest q.1 q.2.1 q.2.2.1 q.2.2.2 ∈ lw_tbl := by decide +kernel
theorem exD_in : ∀ x ∈ exD, Cond.declares x ∈ lw_tbl := by decide +kernel
theorem exC_in : ∀ q ∈ exC, Cond.castable q.1 q.2 ∈ lw_tbl := by decide +kernel
theorem exS_in : ∀ q ∈ exS, Cond.stringRef RX7 q.1 q.2 ∈ lw_tbl := by decide +kernel
theorem exN_in : ∀ q ∈ exN, Cond.not (.castable q.1 q.2) ∈ flatC (Jvm.Cond.and given_1 narrow_1) := by decide +kernel
theorem isU_in : Cond.isRef (.static Bundle.tN "UNASSIGNED_STACK" Bundle.steD) ∈ flatC (Jvm.Cond.and given_1 narrow_1) := by decide +kernel
theorem isN_in : Cond.isRef (.static Bundle.tN "SUPPRESSED_SENTINEL" Bundle.listD) ∈ flatC (Jvm.Cond.and given_1 narrow_1) := by decide +kernel
theorem tb1_in : Cond.laysStatic Bundle.tN "UNASSIGNED_STACK" Bundle.steD ∈ lw_tbl := by decide +kernel
theorem tb2_in : Cond.laysStatic Bundle.tN "SUPPRESSED_SENTINEL" Bundle.listD ∈ lw_tbl := by decide +kernel
theorem tb3_in : Cond.initialized Bundle.tN ∈ lw_tbl := by decide +kernel
theorem tb4_in : Cond.arrayClass .int ∈ lw_tbl := by decide +kernel
theorem tb5_in : Cond.arrayClass .long ∈ lw_tbl := by decide +kernel
theorem tb6_in : Cond.arrayClass .boolean ∈ lw_tbl := by decide +kernel
theorem tb7_in : Cond.arrayOver (.array .int) ∈ lw_tbl := by decide +kernel
theorem tb8_in : Cond.arrayOver (.array .long) ∈ lw_tbl := by decide +kernel
theorem tbX_in : Cond.instantiable RX0 1 ∈ lw_tbl ∧ Cond.instantiable RX1 1 ∈ lw_tbl ∧ Cond.instantiable RX2 5 ∈ lw_tbl ∧ Cond.instantiable RX3 4 ∈ lw_tbl ∧ Cond.instantiable RX4 6 ∈ lw_tbl ∧ Cond.instantiable RX5 3 ∈ lw_tbl ∧ Cond.instantiable RX6 2 ∈ lw_tbl ∧ Cond.instantiable RX7 8 ∈ lw_tbl ∧ Cond.instantiable RX8 20 ∈ lw_tbl := by decide +kernel
theorem ac_of {args : Array Value} {s : State} {ty : FieldType} (h : (Cond.arrayClass ty).before args s = true) : ∃ cA, ArrOfT s cA ty ∧ s.vm.findClass ("[" ++ ty.toString) = some cA := by
  obtain ⟨cA, kA, comp, h1, h2, h3⟩ := Cond.arrayClass_spec h
  exact ⟨cA, fun n z => ⟨fun k h => (by cases h), kA, h2, comp, h3⟩, h1⟩
theorem ao_of {args : Array Value} {s : State} {ty : FieldType} (h : (Cond.arrayOver (.array ty)).before args s = true) : ∃ cA, ArrOfT s cA (.array ty) ∧ s.vm.findClass ("[" ++ (FieldType.array ty).toString) = some cA := by
  obtain ⟨comp, c, k, -, h1, h2, h3⟩ := Cond.arrayOver_specA h
  exact ⟨c, fun n z => ⟨fun k h => (by cases h), k, h1, comp, h2⟩, h3⟩
set_option maxRecDepth 100000 in
theorem lw_enter {p : Program} {l : Launch} {s : State} {m : MethodId} {meth : Method} {c : Code} {b L : Nat} {xs : Nat → Int32} (hlt : l.stackTraces = false) (hL : L ≤ 2048)
    (hx : p.tables.exec = Jvm.exec) (hb : c.code = code) (hml : c.maxLocals = 8) (hown : s.vm.findClass RL = some m.cls) (hts : ∀ w ∈ lw_tbl, w.before #[Value.ref b] s = true) (hX : va_X b L xs s s.heap) (hbl : b < s.heap.size) (hgv : (Jvm.Cond.and given_1 narrow_1).before #[Value.ref b] s = true) :
    ∃ (dC : Nat → ClassId) (dI : Nat → Nat → Nat) (cI cJ cZ cII cJJ : ClassId), lwC p l s m meth c b L xs dC dI cI cJ cZ cII cJJ ∧ aoOK s := by
  have hfl := flat_of_before _ hgv
  obtain ⟨t0, t1, t2, t3, t4, t5, t6, t7, t8⟩ := tbX_in
  obtain ⟨c0, i0, k0⟩ := u_known (C := RX0) (T := TX0) (N := 1) (n := 1) hts in_wsX00 (hts _ t0)
  obtain ⟨c1, i1, k1⟩ := u_known (C := RX1) (T := TX1) (N := 1) (n := 1) hts in_wsX10 (hts _ t1)
  obtain ⟨c2, i2, k2⟩ := u_known (C := RX2) (T := TX2) (N := 5) (n := 5) hts in_wsX20 (hts _ t2)
  obtain ⟨c3, i3, k3⟩ := u_known (C := RX3) (T := TX3) (N := 4) (n := 4) hts in_wsX30 (hts _ t3)
  obtain ⟨c4, i4, k4⟩ := u_known (C := RX4) (T := TX4) (N := 6) (n := 6) hts in_wsX40 (hts _ t4)
  obtain ⟨c5, i5, k5⟩ := u_known (C := RX5) (T := TX5) (N := 3) (n := 3) hts in_wsX50 (hts _ t5)
  obtain ⟨c6, i6, k6⟩ := u_known (C := RX6) (T := TX6) (N := 2) (n := 2) hts in_wsX60 (hts _ t6)
  obtain ⟨c7, i7, k7⟩ := u_known (C := RX7) (T := TX7) (N := 8) (n := 8) hts in_wsX70 (hts _ t7)
  obtain ⟨c8, i8, k8⟩ := u_known (C := RX8) (T := TX8) (N := 20) (n := 20) hts in_wsX80 (hts _ t8)
  obtain ⟨dC, dI, hKc⟩ : ∃ (dC : Nat → ClassId) (dI : Nat → Nat → Nat), ∀ (k : Nat) (q : vw_C), vwCl[k]? = some q → u_Kn s q.1 q.2.1 q.2.2 (dC k) (dI k) := by
    refine ⟨fun k => ([c0, c1, c2, c3, c4, c5, c6, c7, c8] : List ClassId).getD k c0, fun k => ([i0, i1, i2, i3, i4, i5, i6, i7, i8] : List (Nat → Nat)).getD k i0, ?_⟩
    intro k q hq
    match k, hq with
    | 0, hq => cases hq; exact k0
    | 1, hq => cases hq; exact k1
    | 2, hq => cases hq; exact k2
    | 3, hq => cases hq; exact k3
    | 4, hq => cases hq; exact k4
    | 5, hq => cases hq; exact k5
    | 6, hq => cases hq; exact k6
    | 7, hq => cases hq; exact k7
    | 8, hq => cases hq; exact k8
    | k + 9, hq => exact absurd hq (by simp [vwCl])
  obtain ⟨cI, aI1, aI2⟩ := ac_of (hts _ tb4_in)
  obtain ⟨cJ, aJ1, aJ2⟩ := ac_of (hts _ tb5_in)
  obtain ⟨cZ, aZ1, aZ2⟩ := ac_of (hts _ tb6_in)
  obtain ⟨cII, aII1, aII2⟩ := ao_of (hts _ tb7_in)
  obtain ⟨cJJ, aJJ1, aJJ2⟩ := ao_of (hts _ tb8_in)
  have hK : va_K (dC, dI) vwCl (tyL cI cJ cZ cII cJJ) s := ⟨hKc, fun k q hq => by
    match k, hq with
    | 0, hq => cases hq; exact ⟨aI1, aI2⟩
    | 1, hq => cases hq; exact ⟨aJ1, aJ2⟩
    | 2, hq => cases hq; exact ⟨aZ1, aZ2⟩
    | 3, hq => cases hq; exact ⟨aII1, aII2⟩
    | 4, hq => cases hq; exact ⟨aJJ1, aJJ2⟩
    | k + 5, hq => exact absurd hq (by simp [tyL])⟩
  have hN : nwOK s := ⟨fun q hq => va_Nw.of rfl (hts _ (nwF_in q hq)), fun q hq => va_Nw.of rfl (hts _ (nwM_in q hq))⟩
  obtain ⟨cur, -, hcur, -⟩ := Cond.instantiable_spec (hts _ t7)
  have hO : exOK s := ⟨fun x hx => va_Nw.of rfl (hts _ (exD_in x hx)), fun q hq => va_Nw.of rfl (hts _ (exC_in q hq)), fun q hq => va_Nc.of (hfl _ (exN_in q hq)), fun q hq => by
    have h1 := hts _ (exS_in q hq)
    obtain ⟨k, cf, i, a, -, -, -, -, -, h6⟩ := Cond.stringRef_spec hcur h1
    exact ⟨a, vk_R.of h1 h6⟩⟩
  have hno : ∀ a : Nat, a < s.heap.size → ¬ (fun q => s.heap.size ≤ q) a := fun a ha h => by have h : s.heap.size ≤ a := h; omega
  exact ⟨dC, dI, cI, cJ, cZ, cII, cJJ, ⟨⟨hx, hb, hml, hown, fun w hw => hts w (wsL_law_in w hw)⟩, hK, hN, ⟨hO, vx_Zqof (hts _ tb1_in) (hts _ tb3_in) (hfl _ isU_in) hno, vx_Zqof (hts _ tb2_in) (hts _ tb3_in) (hfl _ isN_in) hno⟩, hX, hbl, hlt, hL⟩, hts _ tb7_in, hts _ tb8_in⟩
