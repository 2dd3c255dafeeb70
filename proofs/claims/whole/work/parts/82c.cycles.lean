-- the number of simple cycles
theorem ct0_pow (G : Nat → Bool) : ∀ k, ct0 (2 ^ k) G = (if G 0 then 1 else 0) + sN k (fun e => ct0 (2 ^ e) (fun y => G (2 ^ e + y)))
  | 0 => by simp [ct0, sN]
  | k + 1 => by
    rw [show 2 ^ (k + 1) = 2 ^ k + 2 ^ k by rw [Nat.pow_succ]; omega, ct0_split, ct0_pow G k]
    simp only [sN]; omega
theorem add_xor {y e : Nat} (h : y < 2 ^ e) : 2 ^ e + y = y ^^^ 2 ^ e := by
  apply Nat.eq_of_testBit_eq
  intro i
  rw [Nat.testBit_xor, Nat.testBit_two_pow]
  rcases Nat.lt_trichotomy i e with q | q | q
  · rw [Nat.testBit_two_pow_add_gt q, decide_eq_false (by omega)]; simp
  · subst q
    rw [Nat.testBit_two_pow_add_eq, Nat.testBit_lt_two_pow h]; simp
  · rw [Nat.testBit_lt_two_pow (Nat.lt_of_lt_of_le h (Nat.pow_le_pow_right (by omega) (by omega))), decide_eq_false (by omega), Nat.testBit_lt_two_pow]
    · rfl
    · have := Nat.pow_le_pow_right (n := 2) (by omega) (show e + 1 ≤ i by omega)
      rw [Nat.pow_succ] at this; omega
/-- what the class sums up -/
def cyN (fr to : Nat → Nat) (k : Nat) : Nat := sN k (fun e => pth (bwN fr to e) (to e) 15 (fr e) (2 ^ fr e))
theorem elA_even {fr to : Nat → Nat} {nv ne c : Nat} (hm : ne ≤ 64) (hN : ∀ e, e < ne → fr e < nv ∧ to e < nv) : evn fr to nv ne (elA fr to ne c) :=
  (evn_bd hm hN (elA_lt hm hN (Nat.le_refl _))).mpr (fun x => cb_bd fr to _ x _ _ (fun i hi => ((jA hm hN).2.2.2.2.1 i hi).2.2.1 x))
abbrev cdA (fr to : Nat → Nat) (ne z : Nat) : Nat := nb (fun i => z.testBit (czA fr to ne i)) (dmA fr to ne)
theorem elA_code {fr to : Nat → Nat} {nv ne z : Nat} (hm : ne ≤ 64) (hN : ∀ e, e < ne → fr e < nv ∧ to e < nv) (hz : z < 2 ^ ne) (he : evn fr to nv ne z) : elA fr to ne (cdA fr to ne z) = z :=
  (jOK_span (jA hm hN) ((evn_bd hm hN hz).mp he) (fun e h => by
    have : e < ne := Nat.lt_of_not_le (fun q => by rw [Nat.testBit_lt_two_pow (Nat.lt_of_lt_of_le hz (Nat.pow_le_pow_right (by omega) q))] at h; cases h)
    exact ⟨this, by rw [fl_bit]; simp [this]⟩)).symm
theorem code_elA {fr to : Nat → Nat} {nv ne c : Nat} (hm : ne ≤ 64) (hN : ∀ e, e < ne → fr e < nv ∧ to e < nv) (hc : c < 2 ^ dmA fr to ne) : cdA fr to ne (elA fr to ne c) = c := by
  apply Nat.eq_of_testBit_eq
  intro i
  rw [nb_bit]
  by_cases q : i < dmA fr to ne
  · rw [decide_eq_true q, Bool.true_and]; exact jOK_code (jA hm hN) q
  · rw [decide_eq_false q, Bool.false_and, Nat.testBit_lt_two_pow (Nat.lt_of_lt_of_le hc (Nat.pow_le_pow_right (by omega) (Nat.le_of_not_lt q)))]
theorem cycles_tie {fr to : Nat → Nat} {nv ne : Nat} (hm : ne ≤ 64) (hnv : nv ≤ 16) (hN : ∀ e, e < ne → fr e < nv ∧ to e < nv) : ct0 (2 ^ dmA fr to ne) (fun c => decide (rng fr to nv ne (elA fr to ne c))) = cyN fr to ne := by
  have h1 : ct0 (2 ^ dmA fr to ne) (fun c => decide (rng fr to nv ne (elA fr to ne c))) = ct0 (2 ^ ne) (fun z => decide (evn fr to nv ne z ∧ (jRun fr to z ne).2.2.1 = 1)) :=
    ct0_bij (elA fr to ne) (cdA fr to ne) (fun c hc hf => ⟨elA_lt hm hN (Nat.le_refl _), by
        have hf : rng fr to nv ne (elA fr to ne c) := of_decide_eq_true hf
        exact decide_eq_true ⟨elA_even hm hN, hf.2.2⟩, code_elA hm hN hc⟩)
      (fun z hz hg => by
        have hg : evn fr to nv ne z ∧ (jRun fr to z ne).2.2.1 = 1 := of_decide_eq_true hg
        have e := elA_code hm hN hz hg.1
        refine ⟨nb_lt _ _, ?_, e⟩
        rw [e]
        exact decide_eq_true ((rng_iff hm hN hz hg.1).mpr hg.2))
  rw [h1, ct0_pow]
  have h0 : decide (evn fr to nv ne 0 ∧ (jRun fr to 0 ne).2.2.1 = 1) = false := decide_eq_false (fun h => by
    have z : ∀ k, (jRun fr to 0 k).2.2.1 = 0 := by
      intro k; induction k with
      | zero => rfl
      | succ k ih => rw [jRun_out (by rw [Nat.zero_testBit]; decide)]; exact ih
    rw [z] at h; exact absurd h.2 (by decide))
  rw [h0]
  show 0 + _ = _
  rw [Nat.zero_add]
  unfold cyN
  apply sN_congr
  intro e he
  rw [← ps_count (fun i hi => by have := hN i (by omega); omega) 15 (fr e) (2 ^ fr e) (by simp)]
  apply ct0_congr
  intro y hy
  rw [add_xor hy]
  have := rng_path hm hnv hN he hy
  cases c : psB fr to e (to e) 15 (fr e) (2 ^ fr e) y with
  | true => exact decide_eq_true (this.mpr c)
  | false => exact decide_eq_false (fun h => by rw [this.mp h] at c; cases c)
