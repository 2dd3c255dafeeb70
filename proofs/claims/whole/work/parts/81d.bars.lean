-- Bareiss' elimination in whole numbers is the elimination
abbrev qq (M : Nat → Nat → Int) : QM := fun i j => (M i j : Rat)
def bsz (n : Nat) (M : Nat → Nat → Int) : Nat → (Nat → Nat → Int) × Int
  | 0 => (M, 1)
  | k + 1 => if (bsz n M k).1 k k = 0 then bsz n M k else (fun i j => if k < i ∧ k < j ∧ i < n ∧ j < n then ((bsz n M k).1 i j * (bsz n M k).1 k k - (bsz n M k).1 i k * (bsz n M k).1 k j).tdiv (bsz n M k).2 else (bsz n M k).1 i j, (bsz n M k).1 k k)
theorem bsz_z {n k : Nat} {M : Nat → Nat → Int} (h : (bsz n M k).1 k k = 0) : bsz n M (k + 1) = bsz n M k := by simp only [bsz]; rw [if_pos h]
theorem bsz_s {n k : Nat} {M : Nat → Nat → Int} (h : ¬ (bsz n M k).1 k k = 0) : bsz n M (k + 1) = (fun i j => if k < i ∧ k < j ∧ i < n ∧ j < n then ((bsz n M k).1 i j * (bsz n M k).1 k k - (bsz n M k).1 i k * (bsz n M k).1 k j).tdiv (bsz n M k).2 else (bsz n M k).1 i j, (bsz n M k).1 k k) := by simp only [bsz]; rw [if_neg h]
theorem bs_bsz {n : Nat} {M : Nat → Nat → Int} : ∀ k, (∀ j, j < k → ¬ (bsz n M j).1 j j = 0) → bs n M k = bsz n M k
  | 0, _ => rfl
  | k + 1, h => by
    rw [bsz_s (h k (by omega)), ← bs_bsz k (fun j hj => h j (by omega))]
    rfl
theorem take_s {L : List Nat} {k : Nat} (h : k < L.length) : L.take (k + 1) = L.take k ++ [L.getD k 0] := by
  rw [List.take_succ]; simp [List.getD, h]
theorem okL_app {n : Nat} : ∀ {L K : List Nat} {X : Nat → Bool}, okL n X (L ++ K) ↔ okL n X L ∧ okL n (rmvs X L) K := by
  intro L; induction L with
  | nil => intro K X; exact ⟨fun h => ⟨trivial, h⟩, fun h => h.2⟩
  | cons p L ih =>
    intro K X
    show (p < n ∧ X p = true ∧ okL n (rmv X p) (L ++ K)) ↔ (p < n ∧ X p = true ∧ okL n (rmv X p) L) ∧ okL n (rmvs (rmv X p) L) K
    rw [ih]; exact ⟨fun ⟨a, b, c, d⟩ => ⟨⟨a, b, c⟩, d⟩, fun ⟨⟨a, b, c⟩, d⟩ => ⟨a, b, c, d⟩⟩
theorem rmvs_t : ∀ {L : List Nat} {X : Nat → Bool} {i : Nat}, rmvs X L i = true ↔ X i = true ∧ i ∉ L := by
  intro L; induction L with
  | nil => intro X i; exact ⟨fun h => ⟨h, by simp⟩, fun h => h.1⟩
  | cons p L ih => intro X i; show rmvs (rmv X p) L i = true ↔ _; rw [ih, rmv_t]; simp [and_assoc]
theorem okL_take {n k : Nat} {X : Nat → Bool} {L : List Nat} (h : okL n X L) : okL n X (L.take k) := by
  have := List.take_append_drop k L
  rw [← this, okL_app] at h; exact h.1
theorem okL_mem {n k : Nat} : ∀ {L : List Nat} {X : Nat → Bool}, okL n X L → k ∈ L → k < n ∧ X k = true := by
  intro L; induction L with
  | nil => intro X _ h; cases h
  | cons p L ih =>
    intro X h hk
    rcases List.mem_cons.mp hk with q | q
    · rw [q]; exact ⟨h.1, h.2.1⟩
    · have := ih h.2.2 q; exact ⟨this.1, (rmv_t.mp this.2).1⟩
theorem okL_at {n k i : Nat} {X : Nat → Bool} {L : List Nat} (h : okL n X L) (hk : k ≤ i) (hi : i < L.length) : L.getD i 0 < n ∧ rmvs X (L.take k) (L.getD i 0) = true := by
  have e := List.take_append_drop k L
  have h2 := h
  rw [← e, okL_app] at h2
  have hm : L.getD i 0 ∈ L.drop k := by
    rw [List.getD_eq_getElem?_getD, List.getElem?_eq_getElem hi]
    show L[i] ∈ L.drop k
    have : L[i] = (L.drop k)[i - k]'(by rw [List.length_drop]; omega) := by rw [List.getElem_drop]; congr 1; omega
    rw [this]; exact List.getElem_mem _
  exact okL_mem h2.2 hm
theorem qEs_s {M : QM} {L : List Nat} {k : Nat} (h : k < L.length) : qEs M (L.take (k + 1)) = qE (qEs M (L.take k)) (L.getD k 0) := by rw [take_s h, qEs_app]; rfl
theorem qP_s {M : QM} {L : List Nat} {k : Nat} (h : k < L.length) : qP M (L.take (k + 1)) = qP M (L.take k) * (if qEs M (L.take k) (L.getD k 0) (L.getD k 0) = 0 then 1 else qEs M (L.take k) (L.getD k 0) (L.getD k 0)) := by
  rw [take_s h, qP_app]; show _ * (_ * 1) = _; rw [Rat.mul_one]
theorem bsz_q {n len : Nat} {X : Nat → Bool} {M A : Nat → Nat → Int} {L : List Nat} (hl : L.length = len) (hA : ∀ a b, a < len → b < len → A a b = M (L.getD a 0) (L.getD b 0)) (hp : lp n X (qq M)) (hk : okL n X L) :
    ∀ k, k ≤ len → ((bsz len A k).2 : Rat) = qP (qq M) (L.take k) ∧ ∀ i j, k ≤ i → k ≤ j → i < len → j < len → ((bsz len A k).1 i j : Rat) = qP (qq M) (L.take k) * qEs (qq M) (L.take k) (L.getD i 0) (L.getD j 0)
  | 0, _ => ⟨rfl, fun i j _ _ hi hj => by
      show (A i j : Rat) = 1 * (M (L.getD i 0) (L.getD j 0) : Rat)
      rw [hA i j hi hj, Rat.one_mul]⟩
  | k + 1, h => by
    obtain ⟨h1, h2⟩ := bsz_q hl hA hp hk k (by omega)
    have hkl : k < L.length := by omega
    have hP := (hp.bd (M := qq M) (okL_take (k := k) hk) (fun _ _ _ => Rat.le_refl)).1
    have hkk := h2 k k (Nat.le_refl k) (Nat.le_refl k) (by omega) (by omega)
    rw [qP_s hkl, qEs_s hkl]
    by_cases z : (bsz len A k).1 k k = 0
    · have z2 : qEs (qq M) (L.take k) (L.getD k 0) (L.getD k 0) = 0 := by
        rw [z] at hkk
        have : (0 : Rat) = qP (qq M) (L.take k) * qEs (qq M) (L.take k) (L.getD k 0) (L.getD k 0) := hkk
        grind
      rw [bsz_z z, if_pos z2, Rat.mul_one, qE_z z2]
      exact ⟨h1, fun i j hi hj => h2 i j (by omega) (by omega)⟩
    · have z2 : ¬ qEs (qq M) (L.take k) (L.getD k 0) (L.getD k 0) = 0 := fun e => z (by
        rw [e, Rat.mul_zero] at hkk; exact Rat.intCast_inj.mp hkk)
      rw [bsz_s z, if_neg z2]
      refine ⟨hkk, fun i j hi hj hi2 hj2 => ?_⟩
      obtain ⟨zz, hz⟩ := qT_I (L := L.take (k + 1)) (M := qq M) (fun a b => ⟨_, rfl⟩) (L.getD i 0) (L.getD j 0)
      rw [qP_s hkl, qEs_s hkl, if_neg z2] at hz
      rw [hz]
      show ((if k < i ∧ k < j ∧ i < len ∧ j < len then ((bsz len A k).1 i j * (bsz len A k).1 k k - (bsz len A k).1 i k * (bsz len A k).1 k j).tdiv (bsz len A k).2 else (bsz len A k).1 i j : Int) : Rat) = zz
      rw [if_pos ⟨by omega, by omega, hi2, hj2⟩]
      congr 1
      have hb : (bsz len A k).2 ≠ 0 := fun e => by
        rw [e] at h1
        have : (0 : Rat) = qP (qq M) (L.take k) := h1
        grind
      have e : (bsz len A k).1 i j * (bsz len A k).1 k k - (bsz len A k).1 i k * (bsz len A k).1 k j = (bsz len A k).2 * zz := by
        apply Rat.intCast_inj.mp
        rw [Rat.intCast_sub, Rat.intCast_mul, Rat.intCast_mul, Rat.intCast_mul, h1, hkk, h2 i j (by omega) (by omega) hi2 hj2, h2 i k (by omega) (Nat.le_refl k) hi2 (by omega), h2 k j (Nat.le_refl k) (by omega) (by omega) hj2, ← hz]
        unfold qE
        generalize qP (qq M) (L.take k) = P at *
        generalize qEs (qq M) (L.take k) = S at *
        grind
      rw [e, Int.mul_tdiv_cancel_left _ hb]
theorem bsz_b {n len : Nat} {X : Nat → Bool} {M A : Nat → Nat → Int} {d : Nat → Nat} {L : List Nat} (hl : L.length = len) (hA : ∀ a b, a < len → b < len → A a b = M (L.getD a 0) (L.getD b 0)) (hp : lp n X (qq M)) (hk : okL n X L) (hd : ∀ i, M i i = d i) (hn : n ≤ 16) (hs : sN n d ≤ 58) :
    ∀ k, k ≤ len → (0 < (bsz len A k).2 ∧ (bsz len A k).2 < 2147483648) ∧ ∀ i j, i < len → j < len → -2147483648 < (bsz len A k).1 i j ∧ (bsz len A k).1 i j < 2147483648 := by
  have hsL : ∀ {K : List Nat}, okL n X K → bN d K < 2147483648 := fun {K} h => by
    have h1 := h.len
    have h2 := h.sum (d := d)
    have h3 : sN n (fun j => if X j = true then d j else 0) ≤ sN n d := by
      clear h2 h1 hs hn
      induction n with
      | zero => exact Nat.le_refl _
      | succ n ih =>
        have : ∀ m, sN m (fun j => if X j = true then d j else 0) ≤ sN m d := by
          intro m; induction m with
          | zero => exact Nat.le_refl _
          | succ m ihm => simp only [sN]; split <;> omega
        exact this _
    exact am3 (by omega) (by omega) (am2 d K)
  have hqB : ∀ {K : List Nat}, qB (qq M) K = (bN d K : Rat) := fun {K} => qB_N (fun p _ => by show ((M p p : Int) : Rat) = _; rw [hd p]; rfl)
  intro k
  induction k with
  | zero =>
    intro _
    refine ⟨⟨show (0 : Int) < 1 by decide, show (1 : Int) < 2147483648 by decide⟩, fun i j hi hj => ?_⟩
    obtain ⟨a1, a2⟩ := okL_at hk (Nat.zero_le i) (by omega : i < L.length)
    obtain ⟨b1, b2⟩ := okL_at hk (Nat.zero_le j) (by omega : j < L.length)
    have e := hp.ent a1 b1 a2 b2
    show -2147483648 < A i j ∧ A i j < 2147483648
    rw [hA i j hi hj]
    have hb := hsL (K := [L.getD i 0]) ⟨a1, a2, trivial⟩
    have hb : max 1 (d (L.getD i 0)) * 1 < 2147483648 := hb
    have e1 : -(M (L.getD i 0) (L.getD i 0)) ≤ M (L.getD i 0) (L.getD j 0) := by
      have := e.1
      rw [show - qq M (L.getD i 0) (L.getD i 0) = ((-(M (L.getD i 0) (L.getD i 0)) : Int) : Rat) from (Rat.intCast_neg _).symm] at this
      exact Rat.intCast_le_intCast.mp this
    have e2 : M (L.getD i 0) (L.getD j 0) ≤ M (L.getD i 0) (L.getD i 0) := Rat.intCast_le_intCast.mp e.2
    rw [hd] at e1 e2
    omega
  | succ k ih =>
    intro h
    obtain ⟨⟨i1, i2⟩, i3⟩ := ih (by omega)
    obtain ⟨h1, h2⟩ := bsz_q hl hA hp hk (k + 1) h
    have hbd := hp.bd (M := qq M) (okL_take (k := k + 1) hk) (fun _ _ _ => Rat.le_refl)
    refine ⟨⟨?_, ?_⟩, fun i j hi hj => ?_⟩
    · have := hbd.1
      rw [← h1] at this
      exact Rat.intCast_lt_intCast.mp this
    · have a := hbd.2.1
      rw [← h1, hqB] at a
      have a : (bsz len A (k + 1)).2 ≤ ((bN d (L.take (k + 1)) : Nat) : Int) := Rat.intCast_le_intCast.mp a
      have := hsL (okL_take (k := k + 1) hk)
      omega
    · by_cases c : k < i ∧ k < j
      · obtain ⟨a1, a2⟩ := okL_at hk (show k + 1 ≤ i by omega) (by omega : i < L.length)
        obtain ⟨b1, b2⟩ := okL_at hk (show k + 1 ≤ j by omega) (by omega : j < L.length)
        have t := hp.tb (okL_take (k := k + 1) hk) a1 b1 a2 b2
        rw [← h2 i j (by omega) (by omega) hi hj] at t
        have e3 : qB (qq M) (L.take (k + 1)) * qm (qq M (L.getD i 0) (L.getD i 0)) = ((bN d (L.take (k + 1) ++ [L.getD i 0]) : Nat) : Rat) := by
          rw [← hqB]
          have : ∀ K : List Nat, ∀ x, qB (qq M) (K ++ [x]) = qB (qq M) K * qm (qq M x x) := by
            intro K x; induction K with
            | nil => show _ * 1 = 1 * _; grind
            | cons p K ihK => show _ * qB (qq M) (K ++ [x]) = _ * _ * _; rw [ihK]; grind
          rw [this]
        rw [e3] at t
        have hb := hsL (K := L.take (k + 1) ++ [L.getD i 0]) (okL_app.mpr ⟨okL_take hk, a1, a2, trivial⟩)
        have t1 : -((bN d (L.take (k + 1) ++ [L.getD i 0]) : Nat) : Int) ≤ (bsz len A (k + 1)).1 i j := by
          have := t.1
          rw [show - ((bN d (L.take (k + 1) ++ [L.getD i 0]) : Nat) : Rat) = ((-((bN d (L.take (k + 1) ++ [L.getD i 0]) : Nat) : Int) : Int) : Rat) from (Rat.intCast_neg _).symm] at this
          exact Rat.intCast_le_intCast.mp this
        have t2 : (bsz len A (k + 1)).1 i j ≤ ((bN d (L.take (k + 1) ++ [L.getD i 0]) : Nat) : Int) := Rat.intCast_le_intCast.mp t.2
        omega
      · by_cases z : (bsz len A k).1 k k = 0
        · rw [bsz_z z]; exact i3 i j hi hj
        · rw [bsz_s z]
          show -2147483648 < (if k < i ∧ k < j ∧ i < len ∧ j < len then _ else (bsz len A k).1 i j) ∧ (if k < i ∧ k < j ∧ i < len ∧ j < len then _ else (bsz len A k).1 i j) < 2147483648
          rw [if_neg (fun h => c ⟨h.1, h.2.1⟩)]
          exact i3 i j hi hj
