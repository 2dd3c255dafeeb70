-- the house's world, its rows by two functions
theorem gO_eq {R r : Nat → Nat} {b : Nat} (h : ∀ i, i < 16 → R (b + i) = r i) : gO R b = fun i => if i < 16 then some (r i) else none := by
  funext i
  show (if i < 16 then some (R (b + i)) else none) = _
  by_cases q : i < 16
  · rw [if_pos q, if_pos q, h i q]
  · rw [if_neg q, if_neg q]
theorem rw_eq {R r : Nat → Nat} {b : Nat} {f : Nat → va_E} (h : ∀ i, i < 16 → R (b + i) = r i) : (List.range 16).map (fun i => (R (b + i), f i)) = (List.range 16).map (fun i => (r i, f i)) := by
  apply List.map_congr_left
  intro i hi
  rw [h i (List.mem_range.mp hi)]
theorem HW_raw {cI cJ cII cJJ : ClassId} {R r1 r2 : Nat → Nat} {u : sgH} (h1 : ∀ i, i < 16 → R (100 + i) = r1 i) (h2 : ∀ i, i < 16 → R (200 + i) = r2 i) : HW cI cJ cII cJJ R u =
  [(R 0, .inr (7, [.ref (R 1), .ref (R 5), .ref (R 7), .ref (R 10), .ref (R 13), .ref (R 18), .ref (R 19), .ref (R 20)])),
   (R 1, .inr (2, [.int (u.1 0), .int (u.1 1), .ref (R 2), .ref (R 3), .ref (R 4)])), (R 2, aI cI 40 (u.2.1 2)), (R 3, aI cI 40 (u.2.1 3)), (R 4, aI cI 40 (u.2.1 4)),
   (R 5, .inr (5, [.int (u.1 2), .int (u.1 3), .ref (R 6)])), (R 6, aJ cJ 40 (u.2.2.1 6)),
   (R 7, .inr (3, [.int (u.1 4), .int (u.1 5), .ref (R 8), .ref (R 9)])), (R 8, aI cI 16 (u.2.1 8)), (R 9, aJ cJ 16 (u.2.2.1 9)),
   (R 10, .inr (6, [.ref (R 11), .ref (R 12)])), (R 11, aJ cJ 16 (u.2.2.1 11)), (R 12, aJ cJ 16 (u.2.2.1 12)),
   (R 13, .inr (4, [.int (u.1 6), .ref (R 14), .ref (R 15), .int (u.1 7), .ref (R 16), .ref (R 17)])), (R 14, aJ cJ 14 (u.2.2.1 14)), (R 15, aJ cJ 14 (u.2.2.1 15)), (R 16, aJ cJ 640 (u.2.2.1 16)), (R 17, aJ cJ 640 (u.2.2.1 17)),
   (R 18, .inr (1, [.ref (R 21)])), (R 19, .inr (0, [.ref (R 22)])), (R 20, aJ cJ 14 (u.2.2.1 20)), (R 21, aO cJJ 16 (fun i => if i < 16 then some (r1 i) else none)), (R 22, aO cII 16 (fun i => if i < 16 then some (r2 i) else none))]
  ++ ((List.range 16).map (fun i => (r1 i, aJ cJ 16 (u.2.2.2.2 i))) ++ (List.range 16).map (fun i => (r2 i, aI cI 16 (u.2.2.2.1 i)))) := by
  rw [← gO_eq h1, ← gO_eq h2, ← rw_eq (f := fun i => aJ cJ 16 (u.2.2.2.2 i)) h1, ← rw_eq (f := fun i => aI cI 16 (u.2.2.2.1 i)) h2]
theorem perm5 {α : Type} (P T C : List α) (a b c d e : α) : (((P ++ ([a, d] ++ T)) ++ ([b, e] ++ C)) ++ [c]).Perm ((P ++ [a, b, c, d, e]) ++ (T ++ C)) := by
  classical
  rw [List.perm_iff_count]
  intro x
  simp only [List.count_append, List.count_cons, List.count_nil]
  omega
theorem va_P_perm {G : va_G} {cl : List vw_C} {w w' : va_W} {H : Heap} (h : w.Perm w') (hP : va_P G cl w H) : va_P G cl w' H := fun k q hk => by
  obtain ⟨j, hj⟩ := List.mem_iff_getElem?.mp (h.mem_iff.mpr (List.mem_of_getElem? hk))
  exact hP j q hj
theorem va_D_iff {A : Nat → Prop} {w : va_W} : va_D A w ↔ (w.map Prod.fst).Nodup ∧ ∀ q ∈ w, A q.1 := by
  constructor
  · intro h
    refine ⟨List.pairwise_iff_getElem.mpr (fun i j hi hj hij e => ?_), fun q hq => ?_⟩
    · rw [List.getElem_map, List.getElem_map] at e
      rw [List.length_map] at hi hj
      have := h.1 i j w[i] w[j] (List.getElem?_eq_getElem hi) (List.getElem?_eq_getElem hj) e
      omega
    · obtain ⟨k, hk⟩ := List.mem_iff_getElem?.mp hq
      exact h.2 k q hk
  · rintro ⟨h1, h2⟩
    refine ⟨fun i j p q hp hq e => ?_, fun k q hk => h2 q (List.mem_of_getElem? hk)⟩
    obtain ⟨hi, rfl⟩ := List.getElem?_eq_some_iff.mp hp
    obtain ⟨hj, rfl⟩ := List.getElem?_eq_some_iff.mp hq
    have hh := List.pairwise_iff_getElem.mp h1
    rcases Nat.lt_trichotomy i j with l | l | l
    · exact absurd (by rw [List.getElem_map, List.getElem_map]; exact e) (hh i j (by rw [List.length_map]; exact hi) (by rw [List.length_map]; exact hj) l)
    · exact l
    · exact absurd (by rw [List.getElem_map, List.getElem_map]; exact e.symm) (hh j i (by rw [List.length_map]; exact hj) (by rw [List.length_map]; exact hi) l)
theorem va_D_perm {A : Nat → Prop} {w w' : va_W} (h : w.Perm w') (hD : va_D A w) : va_D A w' := by
  rw [va_D_iff] at hD ⊢
  exact ⟨(h.map Prod.fst).nodup_iff.mp hD.1, fun q hq => hD.2 q (h.mem_iff.mpr hq)⟩
def u0H : sgH := (fun k => if k = 0 then 1 else 0, fun _ _ => 0, fun _ _ => 0, fun _ _ => 0, fun _ _ => 0)
