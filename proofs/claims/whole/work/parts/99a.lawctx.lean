-- what holds all through the law
def lwC (p : Program) (l : Launch) (s : State) (m : MethodId) (meth : Method) (c : Code) (b L : Nat) (xs : Nat → Int32) (dC : Nat → ClassId) (dI : Nat → Nat → Nat) (cI cJ cZ cII cJJ : ClassId) : Prop :=
  CallFix p m c code 8 s #[Value.ref b] wsL_law RL ∧ va_K (dC, dI) vwCl (tyL cI cJ cZ cII cJJ) s ∧ nwOK s ∧ exP (fun q => s.heap.size ≤ q) s s.heap ∧ va_X b L xs s s.heap ∧ b < s.heap.size ∧ l.stackTraces = false ∧ L ≤ 2048
def zz (a b : Int32) : Int64 := (a.toInt64 <<< ((32 : Int32).toInt64 &&& 63)) ||| (b.toInt64 &&& 4294967295)
theorem lN_of (x : Int64) : ∃ z, z < 2 ^ 64 ∧ x = lN z := by
  refine ⟨x.toBitVec.toNat, x.toBitVec.isLt, ?_⟩
  apply Int64.toBitVec_inj.mp
  rw [lN_bv, BitVec.ofNat_toNat]; simp
theorem cx_preS {σ : Type} {G : va_G} {tys : List (ClassId × FieldType)} {Wd : σ → va_W} {As : List Value} {u : σ} {s : State} {H H0 : Heap} {locs : List Loc} {A : Nat → Prop} (hK : va_K G vwCl tys s) (hN : nwOK s) (hX : exP A s H0) (hS : va_S A H0 H locs) (hA : ∀ q, H0.size ≤ q → A q) (hP : va_P G vwCl (Wd u) H) (hD : va_D A (Wd u)) : PreS s H (cxP G tys Wd As u H.size) As :=
  ⟨cx_blind, fun U hU hW => ⟨rfl, by rw [hU], by rw [hU]; exact hP, va_K.moved hW.alike hK, hD.weaken (fun _ _ _ _ => trivial), nwOK.moved hW hN, by rw [hU]; exact hX.go hW hS (ct_free hD hS hA)⟩⟩
theorem P_sw {G : va_G} {w r : va_W} {H : Heap} (h : va_P G vwCl (w ++ r) H) : va_P G vwCl (r ++ w) H := va_P_perm List.perm_append_comm h
theorem D_sw {A : Nat → Prop} {w r : va_W} (h : va_D A (w ++ r)) : va_D A (r ++ w) := va_D_perm List.perm_append_comm h
