-- the graph and the list as they were
def fK (I : Nat → Int32) (A : Nat → Nat → Int32) (B : Nat → Nat → Int64) (u : sgH) : Prop := (u.1 0 = I 0 ∧ u.1 1 = I 1 ∧ u.1 2 = I 2 ∧ u.1 3 = I 3) ∧ (u.2.1 2 = A 2 ∧ u.2.1 3 = A 3 ∧ u.2.1 4 = A 4) ∧ u.2.2.1 6 = B 6
section FK
variable {I I1 : Nat → Int32} {A A1 : Nat → Nat → Int32} {B B1 : Nat → Nat → Int64} {C C1 : Nat → Nat → Int32} {T T1 : Nat → Nat → Int64} {u : sgH}
theorem fK.rf : fK I A B (I, A, B, C, T) := ⟨⟨rfl, rfl, rfl, rfl⟩, ⟨rfl, rfl, rfl⟩, rfl⟩
theorem fK.tr (h : fK I A B (I1, A1, B1, C1, T1)) (h2 : fK I1 A1 B1 u) : fK I A B u :=
  ⟨⟨h2.1.1.trans h.1.1, h2.1.2.1.trans h.1.2.1, h2.1.2.2.1.trans h.1.2.2.1, h2.1.2.2.2.trans h.1.2.2.2⟩, ⟨h2.2.1.1.trans h.2.1.1, h2.2.1.2.1.trans h.2.1.2.1, h2.2.1.2.2.trans h.2.1.2.2⟩, h2.2.2.trans h.2.2⟩
theorem fG.k (h : fG I A B C T u) : fK I A B u := ⟨⟨h.1 0 (by decide) (by decide), h.1 1 (by decide) (by decide), h.1 2 (by decide) (by decide), h.1 3 (by decide) (by decide)⟩, ⟨h.2.1 2 (by decide), h.2.1 3 (by decide), h.2.1 4 (by decide)⟩, h.2.2.1 6 (by decide)⟩
theorem fF.k (h : fF I A B C T u) : fK I A B u := ⟨⟨h.1 0 (by decide) (by decide), h.1 1 (by decide) (by decide), h.1 2 (by decide) (by decide), h.1 3 (by decide) (by decide)⟩, ⟨h.2.1 2 (by decide), h.2.1 3 (by decide), h.2.1 4 (by decide)⟩, h.2.2.1 6 (by decide) (by decide)⟩
theorem fL.k (h : fL I A B C T u) : fK I A B u := ⟨⟨h.1 0 (by decide) (by decide), h.1 1 (by decide) (by decide), h.1 2 (by decide) (by decide), h.1 3 (by decide) (by decide)⟩, ⟨by rw [h.2.1], by rw [h.2.1], by rw [h.2.1]⟩, h.2.2.1 6 (by decide) (by decide) (by decide) (by decide) (by decide) (by decide)⟩
theorem fW.k (h : fW I A B C T u) : fK I A B u := ⟨⟨by rw [h.1], by rw [h.1], by rw [h.1], by rw [h.1]⟩, ⟨by rw [h.2.1], by rw [h.2.1], by rw [h.2.1]⟩, h.2.2.1 6 (by decide) (by decide)⟩
theorem gH.fk {nv ne : Nat} {fr to wt : Nat → Nat} (g : gH nv ne fr to wt I A) (h : fK I A B u) : gH nv ne fr to wt u.1 u.2.1 := by
  obtain ⟨g1, g2, g3, g4, g5, g6⟩ := g
  refine ⟨g1, g2, g3, h.1.1.trans g4, h.1.2.1.trans g5, ?_⟩
  rw [h.2.1.1, h.2.1.2.1, h.2.1.2.2]; exact g6
theorem rS.fk {n rk2 : Nat} {row : Nat → Nat} (g : rS n rk2 row I B) (h : fK I A B u) : rS n rk2 row u.1 u.2.2.1 := by
  obtain ⟨g1, g2, g3⟩ := g
  refine ⟨h.1.2.2.1.trans g1, h.1.2.2.2.trans g2, ?_⟩
  rw [h.2.2]; exact g3
end FK
def nH (ne : Nat) (a b w : Int32) (I : Nat → Int32) (A : Nat → Nat → Int32) (B : Nat → Nat → Int64) (u : sgH) : Prop := (u.1 0 = I 0 ∧ u.1 1 = nI (ne + 1) ∧ u.1 2 = I 2 ∧ u.1 3 = I 3) ∧ (u.2.1 2 = upd (A 2) ne a ∧ u.2.1 3 = upd (A 3) ne b ∧ u.2.1 4 = upd (A 4) ne w) ∧ u.2.2.1 6 = B 6
theorem ne29 {nv ne : Nat} {fr to wt : Nat → Nat} {I : Nat → Int32} {A : Nat → Nat → Int32} (g : gH nv ne fr to wt I A) (hd : dmA fr to ne ≤ 14) : ne ≤ 29 := by
  have h1 := gc_all g.en
  have h2 := gc_pos (fr := fr) (to := to) (s := fl ne) (k := ne) g.1 (fun e he _ => g.en e he)
  have h3 := g.2.1
  have hd : (jRun fr to (fl ne) ne).2.2.1 ≤ 14 := hd
  omega
noncomputable def lkH (nv ne : Nat) (fr to : Nat → Nat) (n2 rk2 : Nat) (k : Nat) : Nat :=
  if k = 0 then nv else if k = 1 then ne else if k = 2 then gc nv (jRun fr to (fl ne) ne) else if k = 3 then dmA fr to ne else if k = 4 then ne - sz (orS (rgA fr to ne) (dmA fr to ne)) ne else if k = 5 then @ite _ (∃ i, i < dmA fr to ne ∧ sz (rgA fr to ne i) 64 % 2 = 1) (Classical.propDecidable _) 0 1 else if k = 6 then n2 else if k = 7 then rk2 else ptM fr to nv ne nv
theorem nH_of {ne : Nat} {a b w : Int32} {I I1 : Nat → Int32} {A A1 : Nat → Nat → Int32} {B B1 : Nat → Nat → Int64} {C1 : Nat → Nat → Int32} {T1 : Nat → Nat → Int64} {u : sgH} (hk : fK I A B (I1, A1, B1, C1, T1)) (hu : u = (va_up I1 1 (nI (ne + 1)), va_up (va_up (va_up A1 2 (upd (A1 2) ne a)) 3 (upd (A1 3) ne b)) 4 (upd (A1 4) ne w), B1, C1, T1)) : nH ne a b w I A B u := by
  subst hu
  obtain ⟨⟨a1, a2, a3, a4⟩, ⟨b1, b2, b3⟩, c1⟩ := hk
  have e : ∀ j, j ≠ 1 → va_up I1 1 (nI (ne + 1)) j = I1 j := fun j hj => up_ne hj
  refine ⟨⟨(e 0 (by decide)).trans a1, (up_self : va_up I1 1 (nI (ne + 1)) 1 = _), (e 2 (by decide)).trans a3, (e 3 (by decide)).trans a4⟩, ⟨?_, ?_, ?_⟩, c1⟩
  · have e2 : ∀ X Y Z : Nat → Int32, va_up (va_up (va_up A1 2 X) 3 Y) 4 Z 2 = X := fun X Y Z => by rw [up_ne (by decide), up_ne (by decide), up_self]
    refine (e2 (upd (A1 2) ne a) (upd (A1 3) ne b) (upd (A1 4) ne w)).trans ?_; rw [show A1 2 = A 2 from b1]
  · have e2 : ∀ X Y Z : Nat → Int32, va_up (va_up (va_up A1 2 X) 3 Y) 4 Z 3 = Y := fun X Y Z => by rw [up_ne (by decide), up_self]
    refine (e2 (upd (A1 2) ne a) (upd (A1 3) ne b) (upd (A1 4) ne w)).trans ?_; rw [show A1 3 = A 3 from b2]
  · have e2 : ∀ X Y Z : Nat → Int32, va_up (va_up (va_up A1 2 X) 3 Y) 4 Z 4 = Z := fun X Y Z => by rw [up_self]
    refine (e2 (upd (A1 2) ne a) (upd (A1 3) ne b) (upd (A1 4) ne w)).trans ?_; rw [show A1 4 = A 4 from b3]
theorem lkH5_y {nv ne n2 rk2 : Nat} {fr to : Nat → Nat} (h : ∃ i, i < dmA fr to ne ∧ sz (rgA fr to ne i) 64 % 2 = 1) : lkH nv ne fr to n2 rk2 5 = 0 := by
  unfold lkH; rw [if_neg (by decide), if_neg (by decide), if_neg (by decide), if_neg (by decide), if_neg (by decide), if_pos rfl, if_pos h]
theorem lkH5_n {nv ne n2 rk2 : Nat} {fr to : Nat → Nat} (h : ¬ ∃ i, i < dmA fr to ne ∧ sz (rgA fr to ne i) 64 % 2 = 1) : lkH nv ne fr to n2 rk2 5 = 1 := by
  unfold lkH; rw [if_neg (by decide), if_neg (by decide), if_neg (by decide), if_neg (by decide), if_neg (by decide), if_pos rfl, if_neg h]
theorem nat_of {n : Nat} {a : Int32} (hn : n ≤ 1000) (h0 : ¬ a < 0) (h1 : a < nI n) : ∃ j, j < n ∧ a = nI j := by
  obtain ⟨j, hj, rfl⟩ := nI_of h0
  rw [nI_ltI hj (by omega)] at h1
  exact ⟨j, h1, rfl⟩
