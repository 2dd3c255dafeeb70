-- tables of rows
def rT (n : Nat) (T : Nat → Nat → Int64) (M : Nat → Nat → Int) : Prop := ∀ i j, i < n → j < n → T i j = iL (M i j)
theorem rT_up {n : Nat} {T : Nat → Nat → Int64} {M : Nat → Nat → Int} (h : rT n T M) (a b : Nat) (x : Int) : rT n (va_up T a (vp_updL (T a) b (iL x))) (mup M a b x) := by
  intro i j hi hj
  unfold mup
  by_cases e : i = a
  · subst e
    rw [up_self]
    by_cases f : j = b
    · subst f; rw [pk_uLs, if_pos ⟨rfl, rfl⟩]
    · rw [pk_uLn f, if_neg (fun q => f q.2)]; exact h i j hi hj
  · rw [up_ne e, if_neg (fun q => e q.1)]; exact h i j hi hj
theorem stM_end2 {n : Nat} {M : Nat → Nat → Int} {k : Nat} (h : ¬ (bsz n M k).1 k k = 0) : stM n (bsz n M k).1 (bsz n M k).2 k n (k + 1) = (bsz n M (k + 1)).1 := by
  rw [bsz_s h]
  funext x y
  show _ = (if k < x ∧ k < y ∧ x < n ∧ y < n then _ else _)
  unfold stM
  by_cases c : k < x ∧ k < y ∧ x < n ∧ y < n
  · rw [if_pos c, if_pos ⟨c, .inl c.2.2.1⟩]
  · rw [if_neg c, if_neg (fun q => c q.1)]
theorem rT_lg {n a b e : Nat} {fr to : Nat → Nat} {q : JS} {T : Nat → Nat → Int64} (ha : q.1 (fr e) = a) (hb : q.1 (to e) = b) (hab : ¬ a = b) (h : rT n T (layM (some a) (some b) (lgI fr to q e))) : rT n T (lgI fr to q (e + 1)) := by
  intro i j hi hj
  rw [h i j hi hj, lgI_d (by rw [ha, hb]; exact hab), ha, hb]
  congr 1
  exact layM_l1 (len := n) (vx := fun x => x) (fun p _ => ⟨fun h => by rw [h], fun h => (Option.some.inj h).symm⟩) (fun p _ => ⟨fun h => by rw [h], fun h => (Option.some.inj h).symm⟩) hab (fun p r _ _ h => h) i j hi hj
theorem nI_orr (a b : Nat) : nI a ||| nI b = nI (a ||| b) := by
  apply Int32.toBitVec_inj.mp; rw [Int32.toBitVec_or]
  show BitVec.ofNat 32 a ||| BitVec.ofNat 32 b = BitVec.ofNat 32 (a ||| b)
  apply BitVec.eq_of_getLsbD_eq; intro i hi; simp [BitVec.getLsbD_ofNat, Nat.testBit_or, hi]
theorem nI_ml (a b : Nat) : nI a * nI b = nI (a * b) := (Int32.ofNat_mul a b).symm
def rC2 (C : Nat → Nat → Int32) (bw : Nat → Nat → Nat) : Prop := ∀ i j, i < 16 → j < 16 → C i j = nI (bw i j) ∧ bw i j < 2 ^ 31
theorem bwN_s {fr to : Nat → Nat} {k a v : Nat} : bwN fr to (k + 1) a v = bwN fr to k a v + (if (fr k = a ∧ to k = v) ∨ (fr k = v ∧ to k = a) then 1 else 0) := by
  have hj : jns fr to a v k = true ↔ (fr k = a ∧ to k = v) ∨ (fr k = v ∧ to k = a) := by unfold jns; simp
  unfold bwN
  by_cases c : (fr k = a ∧ to k = v) ∨ (fr k = v ∧ to k = a)
  · rw [if_pos c, ct0_t (hj.mpr c)]
  · rw [if_neg c, ct0_f (bool_f (fun h => c (hj.mp h)))]; rfl
theorem bwN_le {fr to : Nat → Nat} {k a v : Nat} : bwN fr to k a v ≤ k := ct0_le _ _
theorem rC2_one {fr to : Nat → Nat} {k : Nat} {C : Nat → Nat → Int32} (hk : k < 1000) (h : rC2 C (bwN fr to k)) (he : fr k = to k) (h1 : fr k < 16) : rC2 (va_up C (fr k) (upd (C (fr k)) (to k) (nI (bwN fr to k (fr k) (to k) + 1)))) (bwN fr to (k + 1)) := by
  intro i j hi hj
  refine ⟨?_, by have := bwN_le (fr := fr) (to := to) (k := k + 1) (a := i) (v := j); omega⟩
  rw [bwN_s]
  by_cases a : i = fr k
  · rw [a, up_self]
    by_cases b : j = to k
    · rw [b, pk_us, if_pos (.inl ⟨rfl, rfl⟩)]
    · rw [pk_un b, if_neg (by omega), Nat.add_zero]; exact (h _ j h1 hj).1
  · rw [up_ne a, if_neg (by omega), Nat.add_zero]; exact (h i j hi hj).1
theorem rC2_two {fr to : Nat → Nat} {k : Nat} {C C1 : Nat → Nat → Int32} (hk : k < 1000) (h : rC2 C (bwN fr to k)) (he : ¬ fr k = to k) (h1 : fr k < 16) (h2 : to k < 16) (e1 : C1 = va_up C (fr k) (upd (C (fr k)) (to k) (nI (bwN fr to k (fr k) (to k) + 1)))) : rC2 (va_up C1 (to k) (upd (C1 (to k)) (fr k) (nI (bwN fr to k (to k) (fr k) + 1)))) (bwN fr to (k + 1)) := by
  intro i j hi hj
  refine ⟨?_, by have := bwN_le (fr := fr) (to := to) (k := k + 1) (a := i) (v := j); omega⟩
  rw [bwN_s]
  by_cases a : i = to k
  · rw [a, up_self]
    by_cases b : j = fr k
    · rw [b, pk_us, if_pos (.inr ⟨rfl, rfl⟩)]
    · rw [pk_un b, if_neg (by omega), Nat.add_zero, e1, up_ne (fun q => he q.symm)]; exact (h _ j h2 hj).1
  · rw [up_ne a, e1]
    by_cases b : i = fr k
    · rw [b, up_self]
      by_cases c : j = to k
      · rw [c, pk_us, if_pos (.inl ⟨rfl, rfl⟩)]
      · rw [pk_un c, if_neg (by omega), Nat.add_zero]; exact (h _ j h1 hj).1
    · rw [up_ne b, if_neg (by omega), Nat.add_zero]; exact (h i j hi hj).1
theorem pth_end (bw : Nat → Nat → Nat) (en f sn : Nat) : pth bw en f en sn = 1 := by cases f <;> simp [pth]
def pthS (bw : Nat → Nat → Nat) (en f a sn v : Nat) : Nat := sN v (fun v => if bw a v ≠ 0 ∧ sn.testBit v = false then bw a v * pth bw en f v (sn ||| 2 ^ v) else 0)
theorem pth_s {bw : Nat → Nat → Nat} {en f a sn : Nat} (h : ¬ a = en) : pth bw en (f + 1) a sn = pthS bw en f a sn 16 := by simp only [pth]; rw [if_neg h]; rfl
theorem pth_0 {bw : Nat → Nat → Nat} {en a sn : Nat} (h : ¬ a = en) : pth bw en 0 a sn = 0 := by simp only [pth]; rw [if_neg h]
theorem pthS_n {bw : Nat → Nat → Nat} {en f a sn v : Nat} (h : ¬ (bw a v ≠ 0 ∧ sn.testBit v = false)) : pthS bw en f a sn (v + 1) = pthS bw en f a sn v := by unfold pthS; simp only [sN]; rw [if_neg h]; rfl
theorem pthS_y {bw : Nat → Nat → Nat} {en f a sn v : Nat} (h1 : bw a v ≠ 0) (h2 : sn.testBit v = false) : pthS bw en f a sn (v + 1) = pthS bw en f a sn v + bw a v * pth bw en f v (sn ||| 2 ^ v) := by unfold pthS; simp only [sN]; rw [if_pos ⟨h1, h2⟩]
theorem cyN_s {fr to : Nat → Nat} {k : Nat} : cyN fr to (k + 1) = cyN fr to k + pth (bwN fr to k) (to k) 15 (fr k) (2 ^ fr k) := rfl
