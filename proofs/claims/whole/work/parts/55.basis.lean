-- the lowest bit; candidates; picking
def lowF (z : Nat) : Nat → Nat → Nat
  | 0, i => i
  | n + 1, i => if z.testBit i then i else lowF z n (i + 1)
/-- the lowest bit of a number below 2 ^ 64 -/
def low (z : Nat) : Nat := lowF z 64 0
theorem lowF_ok {z : Nat} : ∀ n i, (∀ j, j < i → z.testBit j = false) → (∃ j, j < i + n ∧ z.testBit j = true) → z.testBit (lowF z n i) = true ∧ lowF z n i < i + n ∧ ∀ j, j < lowF z n i → z.testBit j = false
  | 0, i, h, ⟨j, hj, hb⟩ => by rw [h j (by omega)] at hb; cases hb
  | n + 1, i, h, hex => by
    simp only [lowF]
    by_cases hb : z.testBit i = true
    · rw [if_pos hb]; exact ⟨hb, by omega, h⟩
    · rw [if_neg hb]
      obtain ⟨a, b, c⟩ := lowF_ok n (i + 1) (fun j hj => by
        by_cases e : j = i
        · rw [e]; exact bool_f hb
        · exact h j (by omega)) (by obtain ⟨j, hj, e⟩ := hex; exact ⟨j, by omega, e⟩)
      exact ⟨a, by omega, c⟩
theorem low_ok {z : Nat} (h0 : z ≠ 0) (hz : z < 2 ^ 64) : z.testBit (low z) = true ∧ low z < 64 ∧ ∀ j, j < low z → z.testBit j = false := by
  have hex : ∃ j, j < 64 ∧ z.testBit j = true := by
    refine Classical.byContradiction (fun hn => h0 (Nat.eq_of_testBit_eq (fun j => ?_)))
    rw [Nat.zero_testBit]
    rcases Nat.lt_or_ge j 64 with q | q
    · exact bool_f (fun h => hn ⟨j, q, h⟩)
    · exact Nat.testBit_lt_two_pow (Nat.lt_of_lt_of_le hz (Nat.pow_le_pow_right (by omega) q))
  obtain ⟨a, b, c⟩ := lowF_ok (z := z) 64 0 (fun j h => absurd h (Nat.not_lt_zero _)) (by obtain ⟨j, hj, e⟩ := hex; exact ⟨j, by omega, e⟩)
  exact ⟨a, by show lowF z 64 0 < 64; omega, c⟩
/-- a number one less: below its lowest bit all are set, that one is not, above nothing changes -/
theorem pred_bit {z t : Nat} (h1 : z.testBit t = true) (h2 : ∀ j, j < t → z.testBit j = false) (j : Nat) : (z - 1).testBit j = (if j < t then true else if j = t then false else z.testBit j) := by
  have hm : z % 2 ^ (t + 1) = 2 ^ t := by
    refine Nat.eq_of_testBit_eq (fun i => ?_)
    rw [Nat.testBit_mod_two_pow]
    by_cases e : i = t
    · subst e; rw [Nat.testBit_two_pow_self, h1]; simp
    · rw [Nat.testBit_two_pow_of_ne (fun h => e h.symm)]
      rcases Nat.lt_or_ge i t with q | q
      · rw [h2 i q]; simp
      · simp; intro; omega
  have hz := Nat.div_add_mod z (2 ^ (t + 1))
  have hp : 0 < 2 ^ t := Nat.two_pow_pos t
  have e : z - 1 = 2 ^ (t + 1) * (z / 2 ^ (t + 1)) + (2 ^ t - 1) := by omega
  have hr : 2 ^ t - 1 < 2 ^ (t + 1) := by rw [Nat.pow_succ]; omega
  rw [e, Nat.testBit_two_pow_mul_add _ hr]
  by_cases a : j < t
  · rw [if_pos (by omega), if_pos a, Nat.testBit_two_pow_sub_one]; simp [a]
  · by_cases b : j = t
    · subst b; rw [if_pos (by omega), if_neg (by omega), if_pos rfl, Nat.testBit_two_pow_sub_one]; simp
    · rw [if_neg (by omega), if_neg a, if_neg b, Nat.testBit_div_two_pow, show j - (t + 1) + (t + 1) = j by omega]
theorem and_pred {z t : Nat} (h1 : z.testBit t = true) (h2 : ∀ j, j < t → z.testBit j = false) : z &&& (z - 1) = z ^^^ 2 ^ t := by
  refine Nat.eq_of_testBit_eq (fun j => ?_)
  rw [Nat.testBit_and, Nat.testBit_xor, pred_bit h1 h2]
  by_cases a : j < t
  · rw [h2 j a, Nat.testBit_two_pow_of_ne (by omega)]; simp
  · by_cases b : j = t
    · subst b; rw [h1, Nat.testBit_two_pow_self]; simp
    · rw [if_neg a, if_neg b, Nat.testBit_two_pow_of_ne (fun h => b h.symm)]; cases z.testBit j <;> rfl
theorem and_neg {z t : Nat} (hz : z < 2 ^ 64) (h1 : z.testBit t = true) (h2 : ∀ j, j < t → z.testBit j = false) : z &&& (2 ^ 64 - z) = 2 ^ t := by
  have hpos : 0 < z := Nat.pos_of_ne_zero (fun h => by rw [h, Nat.zero_testBit] at h1; cases h1)
  refine Nat.eq_of_testBit_eq (fun j => ?_)
  rw [Nat.testBit_and, show 2 ^ 64 - z = 2 ^ 64 - (z - 1 + 1) by omega, Nat.testBit_two_pow_sub_succ (by omega), pred_bit h1 h2]
  by_cases a : j < t
  · rw [h2 j a, Nat.testBit_two_pow_of_ne (by omega)]; simp
  · by_cases b : j = t
    · subst b
      have hj : j < 64 := by
        rcases Nat.lt_or_ge j 64 with q | q
        · exact q
        · rw [Nat.testBit_lt_two_pow (Nat.lt_of_lt_of_le hz (Nat.pow_le_pow_right (by omega) q))] at h1; cases h1
      rw [h1, Nat.testBit_two_pow_self]; simp [hj]
    · rw [if_neg a, if_neg b, Nat.testBit_two_pow_of_ne (fun h => b h.symm)]
      cases z.testBit j <;> simp
theorem nm_neg (z : Nat) (hz : z < 2 ^ 64) : - lN z = lN (2 ^ 64 - z) := by
  have h1 : lN (2 ^ 64 - z) + lN z = 0 := by rw [lN_add, show 2 ^ 64 - z + z = 2 ^ 64 by omega]; rfl
  grind
theorem nm_mark {z : Nat} (h0 : z ≠ 0) (hz : z < 2 ^ 64) : lN z &&& - lN z = lN (2 ^ low z) := by
  obtain ⟨a, b, c⟩ := low_ok h0 hz
  rw [nm_neg z hz, wb_and hz (by omega), and_neg hz a c]
theorem and_pow {x t : Nat} (hx : x < 2 ^ 64) (ht : t < 64) : lN x &&& lN (2 ^ t) = 0 ↔ x.testBit t = false := by
  have hp : 2 ^ t < 2 ^ 64 := Nat.pow_lt_pow_right (by omega) ht
  rw [wb_and hx hp]
  have e : x &&& 2 ^ t = if x.testBit t then 2 ^ t else 0 := by
    refine Nat.eq_of_testBit_eq (fun j => ?_)
    rw [Nat.testBit_and]
    by_cases h : t = j
    · subst h; rw [Nat.testBit_two_pow_self]; cases x.testBit t <;> simp
    · rw [Nat.testBit_two_pow_of_ne h]; cases x.testBit t <;> simp [Nat.testBit_two_pow_of_ne h]
  rw [e]
  have hpp := Nat.two_pow_pos t
  cases x.testBit t with
  | false => simp; rfl
  | true =>
    simp only [if_pos]
    constructor
    · intro h
      have : (lN (2 ^ t)).toBitVec.toNat = (0 : Int64).toBitVec.toNat := congrArg (fun q => q.toBitVec.toNat) h
      rw [wb_tn hp] at this
      have : 2 ^ t = 0 := this
      omega
    · intro h; cases h
/-- candidates: how many, the sets, what they are said to weigh -/
abbrev GS : Type := Nat × (Nat → Nat) × (Nat → Nat)
abbrev gcl (p : WSt) (a b e : Nat) : Nat := p.2 a ^^^ p.2 b ^^^ 2 ^ e
def gat1 (p : WSt) (a b e w : Nat) (s : GS) : GS := if p.1 a < 2 ^ 60 ∧ gcl p a b e ≠ 0 then (s.1 + 1, va_up s.2.1 s.1 (gcl p a b e), va_up s.2.2 s.1 (p.1 a + p.1 b + w)) else s
def gatV (fr to wt : Nat → Nat) (p : WSt) : Nat → GS → GS
  | 0, s => s
  | e + 1, s => gat1 p (fr e) (to e) e (wt e) (gatV fr to wt p e s)
def gatA (fr to wt : Nat → Nat) (nv ne : Nat) : Nat → GS
  | 0 => (0, fun _ => 0, fun _ => 0)
  | v + 1 => gatV fr to wt (sek fr to wt ne ne nv v) ne (gatA fr to wt nv ne v)
theorem gat1_le (p : WSt) (a b e w : Nat) (s : GS) : (gat1 p a b e w s).1 ≤ s.1 + 1 := by unfold gat1; split <;> simp
theorem gatV_le (fr to wt : Nat → Nat) (p : WSt) (s : GS) : ∀ e, (gatV fr to wt p e s).1 ≤ s.1 + e
  | 0 => Nat.le_refl _
  | e + 1 => by
    have := gatV_le fr to wt p s e
    have h2 := gat1_le p (fr e) (to e) e (wt e) (gatV fr to wt p e s)
    simp only [gatV]; omega
theorem gatA_le (fr to wt : Nat → Nat) (nv ne : Nat) : ∀ v, (gatA fr to wt nv ne v).1 ≤ v * ne
  | 0 => by simp [gatA]
  | v + 1 => by
    have := gatA_le fr to wt nv ne v
    have h2 := gatV_le fr to wt (sek fr to wt ne ne nv v) (gatA fr to wt nv ne v) ne
    simp only [gatA]; rw [Nat.succ_mul]; omega
/-- the candidates, as the class's cells tell them; the sets below 2 ^ 40, the weights below 2 ^ 62 -/
def rC (s : GS) (I : Nat → Int32) (B : Nat → Nat → Int64) : Prop := I 7 = nI s.1 ∧ s.1 ≤ 640 ∧ ∀ i, i < s.1 → B 16 i = lN (s.2.1 i) ∧ s.2.1 i < 2 ^ 40 ∧ B 17 i = lN (s.2.2 i) ∧ s.2.2 i < 2 ^ 62
/-- the first of the lightest that are left -/
def bL1 (lf lw : Nat → Nat) : Nat → Option Nat
  | 0 => none
  | k + 1 => if lf k = 0 then bL1 lf lw k else match bL1 lf lw k with
    | none => some k
    | some b => if lw k < lw b then some k else some b
theorem bL1_in {lf lw : Nat → Nat} : ∀ {k b}, bL1 lf lw k = some b → b < k ∧ lf b ≠ 0
  | 0, b, h => by cases h
  | k + 1, b, h => by
    simp only [bL1] at h
    by_cases hg : lf k = 0
    · rw [if_pos hg] at h; have := bL1_in h; exact ⟨by omega, this.2⟩
    · rw [if_neg hg] at h
      cases hb : bL1 lf lw k with
      | none => rw [hb] at h; cases h; exact ⟨by omega, hg⟩
      | some b0 =>
        rw [hb] at h
        simp only [] at h
        have := bL1_in hb
        split at h
        · cases h; exact ⟨by omega, hg⟩
        · cases h; exact ⟨by omega, this.2⟩
theorem bL1_same {lf lw : Nat → Nat} {k : Nat} (hg : lf k = 0) : bL1 lf lw (k + 1) = bL1 lf lw k := by simp only [bL1]; rw [if_pos hg]
theorem bL1_first {lf lw : Nat → Nat} {k : Nat} (hg : lf k ≠ 0) (h : bL1 lf lw k = none) : bL1 lf lw (k + 1) = some k := by simp only [bL1]; rw [if_neg hg, h]
theorem bL1_less {lf lw : Nat → Nat} {k b : Nat} (hg : lf k ≠ 0) (h : bL1 lf lw k = some b) (hl : lw k < lw b) : bL1 lf lw (k + 1) = some k := by simp only [bL1]; rw [if_neg hg, h]; simp only []; rw [if_pos hl]
theorem bL1_keep {lf lw : Nat → Nat} {k b : Nat} (hg : lf k ≠ 0) (h : bL1 lf lw k = some b) (hl : ¬ lw k < lw b) : bL1 lf lw (k + 1) = some b := by simp only [bL1]; rw [if_neg hg, h]; simp only []; rw [if_neg hl]
def stk (lf : Nat → Nat) (pc : Nat) : Nat → Nat := fun i => if (lf i).testBit (low pc) then lf i ^^^ pc else lf i
/-- size, rings, weights, what is left -/
abbrev FS : Type := Nat × (Nat → Nat) × (Nat → Nat) × (Nat → Nat)
def fndR (lw : Nat → Nat) (cn : Nat) : Nat → FS → FS
  | 0, s => s
  | n + 1, s => match bL1 s.2.2.2 lw cn with
    | none => s
    | some b => fndR lw cn n (s.1 + 1, va_up s.2.1 s.1 (s.2.2.2 b), va_up s.2.2.1 s.1 (lw b), stk s.2.2.2 (s.2.2.2 b))
theorem fndR_none {lw : Nat → Nat} {cn n : Nat} {s : FS} (h : bL1 s.2.2.2 lw cn = none) : fndR lw cn n s = s := by
  cases n with
  | zero => rfl
  | succ n => simp only [fndR]; rw [h]
theorem fndR_some {lw : Nat → Nat} {cn n b : Nat} {s : FS} (h : bL1 s.2.2.2 lw cn = some b) : fndR lw cn (n + 1) s = fndR lw cn n (s.1 + 1, va_up s.2.1 s.1 (s.2.2.2 b), va_up s.2.2.1 s.1 (lw b), stk s.2.2.2 (s.2.2.2 b)) := by simp only [fndR]; rw [h]
/-- the basis found -/
def fnd (fr to wt : Nat → Nat) (nv ne : Nat) : FS := fndR (gatA fr to wt nv ne nv).2.2 (gatA fr to wt nv ne nv).1 14 (0, fun _ => 0, fun _ => 0, (gatA fr to wt nv ne nv).2.1)
def rB (s : FS) (I : Nat → Int32) (B : Nat → Nat → Int64) : Prop := I 6 = nI s.1 ∧ s.1 ≤ 14 ∧ ∀ i, i < s.1 → B 14 i = lN (s.2.1 i) ∧ s.2.1 i < 2 ^ 40 ∧ s.2.1 i ≠ 0 ∧ B 15 i = lN (s.2.2.1 i) ∧ s.2.2.1 i < 2 ^ 62
/-- what is left of a set when rings lighter than a limit are taken out of it -/
def isl (s : FS) (lim : Nat) : Nat → Nat → Nat
  | 0, z => z
  | i + 1, z => if s.2.2.1 i < lim ∧ (isl s lim i z).testBit (low (s.2.1 i)) = true then isl s lim i z ^^^ s.2.1 i else isl s lim i z
theorem sh1_lt {a b e w m : Nat} {p : WSt} (h : ∀ v, p.2 v < 2 ^ m) (he : e < m) : ∀ v, (sh1 a b e w p).2 v < 2 ^ m := by
  unfold sh1
  split
  · intro v
    show va_up p.2 b (p.2 a ^^^ 2 ^ e) v < 2 ^ m
    by_cases e1 : v = b
    · rw [e1, up_self]; exact Nat.xor_lt_two_pow (h a) (Nat.pow_lt_pow_right (by omega) he)
    · rw [up_ne e1]; exact h v
  · exact h
theorem shA_lt {fr to wt : Nat → Nat} {x m : Nat} {p : WSt} (h : ∀ v, p.2 v < 2 ^ m) : ∀ k, k ≤ m → ∀ v, (shA fr to wt x k p).1.2 v < 2 ^ m
  | 0, _ => h
  | k + 1, hk => by
    have ih := shA_lt (fr := fr) (to := to) (wt := wt) (x := x) h k (by omega)
    simp only [shA]
    split
    · exact ih
    · exact sh1_lt (sh1_lt ih (by omega)) (by omega)
theorem skR_lt {fr to wt : Nat → Nat} {x m : Nat} : ∀ (n : Nat) (p : WSt), (∀ v, p.2 v < 2 ^ m) → ∀ v, (skR fr to wt x m n p).2 v < 2 ^ m
  | 0, _, h => h
  | n + 1, p, h => by
    simp only [skR]
    split
    · exact skR_lt n _ (shA_lt h m (Nat.le_refl m))
    · exact shA_lt h m (Nat.le_refl m)
theorem sek_lt {fr to wt : Nat → Nat} {x m nv a : Nat} (hm : m ≤ 40) : ∀ v, (sek fr to wt x m nv a).2 v < 2 ^ 40 := fun v =>
  Nat.lt_of_lt_of_le (skR_lt (nv - 1) (sk0 a) (fun _ => Nat.two_pow_pos m) v) (Nat.pow_le_pow_right (by omega) hm)
theorem gat1_yes {p : WSt} {a b e w : Nat} {s : GS} (h1 : p.1 a < 2 ^ 60) (h2 : gcl p a b e ≠ 0) : gat1 p a b e w s = (s.1 + 1, va_up s.2.1 s.1 (gcl p a b e), va_up s.2.2 s.1 (p.1 a + p.1 b + w)) := by unfold gat1; rw [if_pos ⟨h1, h2⟩]
theorem gat1_no {p : WSt} {a b e w : Nat} {s : GS} (h : ¬ (p.1 a < 2 ^ 60 ∧ gcl p a b e ≠ 0)) : gat1 p a b e w s = s := by unfold gat1; rw [if_neg h]
theorem rC_add {s : GS} {I I' : Nat → Int32} {B B' : Nat → Nat → Int64} {x w : Nat} (h : rC s I B) (hs : s.1 < 640) (hx : x < 2 ^ 40) (hw : w < 2 ^ 62) (h1 : I' 7 = nI (s.1 + 1)) (h2 : B' 16 = vp_updL (B 16) s.1 (lN x)) (h3 : B' 17 = vp_updL (B 17) s.1 (lN w)) : rC (s.1 + 1, va_up s.2.1 s.1 x, va_up s.2.2 s.1 w) I' B' := by
  refine ⟨h1, by show s.1 + 1 ≤ 640; omega, fun i hi => ?_⟩
  have hi : i < s.1 + 1 := hi
  show B' 16 i = lN (va_up s.2.1 s.1 x i) ∧ va_up s.2.1 s.1 x i < 2 ^ 40 ∧ B' 17 i = lN (va_up s.2.2 s.1 w i) ∧ va_up s.2.2 s.1 w i < 2 ^ 62
  rw [h2, h3]
  by_cases e1 : i = s.1
  · rw [e1, pk_uLs, pk_uLs, up_self, up_self]; exact ⟨rfl, hx, rfl, hw⟩
  · rw [pk_uLn e1, pk_uLn e1, up_ne e1, up_ne e1]; exact h.2.2 i (by omega)
theorem rB_add {s : FS} {I I' : Nat → Int32} {B B' : Nat → Nat → Int64} {x w : Nat} {lf : Nat → Nat} (h : rB s I B) (hs : s.1 < 14) (hx : x < 2 ^ 40) (h0 : x ≠ 0) (hw : w < 2 ^ 62) (h1 : I' 6 = nI (s.1 + 1)) (h2 : B' 14 = vp_updL (B 14) s.1 (lN x)) (h3 : B' 15 = vp_updL (B 15) s.1 (lN w)) : rB (s.1 + 1, va_up s.2.1 s.1 x, va_up s.2.2.1 s.1 w, lf) I' B' := by
  refine ⟨h1, by show s.1 + 1 ≤ 14; omega, fun i hi => ?_⟩
  have hi : i < s.1 + 1 := hi
  show B' 14 i = lN (va_up s.2.1 s.1 x i) ∧ va_up s.2.1 s.1 x i < 2 ^ 40 ∧ va_up s.2.1 s.1 x i ≠ 0 ∧ B' 15 i = lN (va_up s.2.2.1 s.1 w i) ∧ va_up s.2.2.1 s.1 w i < 2 ^ 62
  rw [h2, h3]
  by_cases e1 : i = s.1
  · rw [e1, pk_uLs, pk_uLs, up_self, up_self]; exact ⟨rfl, hx, h0, rfl, hw⟩
  · rw [pk_uLn e1, pk_uLn e1, up_ne e1, up_ne e1]; exact h.2.2 i (by omega)
theorem stk_lt {lf : Nat → Nat} {pc i : Nat} (h1 : lf i < 2 ^ 40) (h2 : pc < 2 ^ 40) : stk lf pc i < 2 ^ 40 := by
  unfold stk; split
  · exact Nat.xor_lt_two_pow h1 h2
  · exact h1
