-- rings and paths
def mnl (fr to : Nat → Nat) (nv ne y : Nat) : Prop := ∀ x, (∀ e, x.testBit e = true → y.testBit e = true) → evn fr to nv ne x → x = 0
theorem mnl.sub {fr to : Nat → Nat} {nv ne y y2 : Nat} (h : mnl fr to nv ne y) (hs : ∀ e, y2.testBit e = true → y.testBit e = true) : mnl fr to nv ne y2 := fun x hx he => h x (fun e q => hs e (hx e q)) he
theorem flip_sub {y e : Nat} (hb : y.testBit e = true) : ∀ i, (y ^^^ 2 ^ e).testBit i = true → y.testBit i = true := fun i h => by
  by_cases q : i = e
  · rw [q]; exact hb
  · rw [flip_bit q] at h; exact h
theorem ps_of {fr to : Nat → Nat} {nv ne k en : Nat} (hk : k ≤ ne) (hnv : nv ≤ 16) (hN : ∀ e, e < ne → fr e < nv ∧ to e < nv) (hen : en < nv) : ∀ f a sn y, (∀ e, y.testBit e = true → e < k) → a < nv → sn.testBit a = true → mnl fr to nv ne y → (∀ e, y.testBit e = true → ∀ s, sn.testBit s = true → s ≠ a → fr e ≠ s ∧ to e ≠ s) →
    (a ≠ en → dg fr to y ne a = 1 ∧ dg fr to y ne en = 1 ∧ ∀ v, v < nv → v ≠ a → v ≠ en → dg fr to y ne v = 0 ∨ dg fr to y ne v = 2) → (a = en → evn fr to nv ne y) → ct0 16 (fun v => !sn.testBit v) ≤ f → psB fr to k en f a sn y = true := by
  intro f
  induction f with
  | zero =>
    intro a sn y hy ha hs hm hav hdg hev hf
    by_cases q : a = en
    · subst q
      rw [psB_end, hm y (fun _ h => h) (hev rfl)]; rfl
    · exfalso
      obtain ⟨e, e1, e2, e3⟩ := dg_ex (fr := fr) (to := to) (z := y) (m := ne) (v := a) (by rw [(hdg q).1]; omega)
      have fl := dg_flip (fr := fr) (to := to) (v := a) e2 ne e1
      have ho := oth_ends e3
      have hne : oth fr to e a ≠ a := fun h => by
        rw [h] at ho
        have : fr e = a ∧ to e = a := by rcases ho with h | h <;> exact ⟨h.1, h.2⟩
        rw [if_pos this.1, if_pos this.2, (hdg q).1] at fl; omega
      have hlt : oth fr to e a < nv := by have := hN e e1; rcases ho with h | h <;> omega
      have hu : sn.testBit (oth fr to e a) = false := bool_f (fun h => by
        have := hav e e2 _ h hne
        rcases ho with h | h
        · exact this.2 h.2
        · exact this.1 h.1)
      have := ct0_pos (n := 16) (f := fun v => !sn.testBit v) (a := oth fr to e a) (by omega) (by simp [hu])
      omega
  | succ f ih =>
    intro a sn y hy ha hs hm hav hdg hev hf
    by_cases q : a = en
    · subst q
      rw [psB_end, hm y (fun _ h => h) (hev rfl)]; rfl
    · obtain ⟨e, e1, e2, e3⟩ := dg_ex (fr := fr) (to := to) (z := y) (m := ne) (v := a) (by rw [(hdg q).1]; omega)
      have fl := fun v => dg_flip (fr := fr) (to := to) (v := v) e2 ne e1
      have ho := oth_ends e3
      have hne : oth fr to e a ≠ a := fun h => by
        rw [h] at ho
        have : fr e = a ∧ to e = a := by rcases ho with h | h <;> exact ⟨h.1, h.2⟩
        have := fl a
        rw [if_pos (by omega), if_pos (by omega), (hdg q).1] at this; omega
      have hlt : oth fr to e a < nv := by have := hN e e1; rcases ho with h | h <;> omega
      have hu : sn.testBit (oth fr to e a) = false := bool_f (fun h => by
        have := hav e e2 _ h hne
        rcases ho with h | h
        · exact this.2 h.2
        · exact this.1 h.1)
      have fl2 : ∀ v, dg fr to y ne v = dg fr to (y ^^^ 2 ^ e) ne v + ((if v = a then 1 else 0) + (if v = oth fr to e a then 1 else 0)) := fun v => by
        rw [fl v]
        rcases ho with ⟨h1, h2⟩ | ⟨h1, h2⟩
        · rw [h1, ← h2]; grind
        · rw [h2, ← h1]; grind
      generalize hv : oth fr to e a = v at *
      have f0 := fl2 a
      rw [if_pos rfl, if_neg (fun h => hne h.symm), (hdg q).1] at f0
      have f0 : dg fr to (y ^^^ 2 ^ e) ne a = 0 := by omega
      refine (psB_ex q).mpr ⟨e, hy e e2, e3, by rw [hv]; exact hu, e2, ?_⟩
      rw [hv]
      refine ih v (sn ||| 2 ^ v) (y ^^^ 2 ^ e) (fun i hi => hy i (flip_sub e2 i hi)) hlt (sn_bit.mpr (.inr rfl)) (hm.sub (flip_sub e2)) (fun i hi s s1 s2 => ?_) (fun q2 => ?_) (fun q2 x hx => ?_) ?_
      · have s3 := (sn_bit.mp s1).resolve_right s2
        by_cases sa : s = a
        · subst sa
          have hi2 : i < ne := Nat.lt_of_lt_of_le (hy i (flip_sub e2 i hi)) hk
          refine ⟨fun h => ?_, fun h => ?_⟩
          · have := dg_pos (fr := fr) (to := to) hi2 hi (Or.inl h); omega
          · have := dg_pos (fr := fr) (to := to) hi2 hi (Or.inr h); omega
        · exact hav i (flip_sub e2 i hi) s s3 sa
      · have d1 := fl2 v
        have d2 := fl2 en
        rw [if_neg hne, if_pos rfl] at d1
        rw [if_neg (fun h => q h.symm), if_neg (fun h => q2 h.symm), (hdg q).2.1] at d2
        have d3 := (hdg q).2.2 v hlt hne q2
        refine ⟨by omega, by omega, fun x hx x1 x2 => ?_⟩
        have d4 := fl2 x
        rw [if_neg x1] at d4
        by_cases xa : x = a
        · rw [xa]; omega
        · rw [if_neg xa] at d4
          have := (hdg q).2.2 x hx xa x2
          omega
      · have d4 := fl2 x
        by_cases xa : x = a
        · rw [xa, f0]
        · rw [if_neg xa] at d4
          by_cases xv : x = v
          · rw [if_pos xv, xv, q2, (hdg q).2.1] at d4; rw [xv, q2]; omega
          · rw [if_neg xv] at d4
            have := (hdg q).2.2 x hx xa (fun h => xv (h.trans q2.symm))
            omega
      · have := ct_more (n := 16) (a := v) (f := fun x => !(sn ||| 2 ^ v).testBit x) (g := fun x => !sn.testBit x) (fun i _ h => by
          have : (!(sn ||| 2 ^ v).testBit i) = true := h
          rw [Nat.testBit_or] at this
          revert this; cases sn.testBit i <;> simp) (by omega) (by simp [sn_bit.mpr (.inr rfl)]) (by simp [hu])
        omega
theorem ps_deg {fr to : Nat → Nat} {nv ne k en : Nat} (hk : k ≤ ne) (hN : ∀ e, e < ne → fr e < nv ∧ to e < nv) : ∀ f a sn y, psB fr to k en f a sn y = true → sn.testBit a = true → a < nv →
    (a ≠ en → dg fr to y ne a = 1 ∧ dg fr to y ne en = 1 ∧ ∀ v, v ≠ a → v ≠ en → dg fr to y ne v = 0 ∨ dg fr to y ne v = 2) ∧ (a = en → y = 0) ∧ mnl fr to nv ne y := by
  have z0 : ∀ y, y = 0 → mnl fr to nv ne y := fun y h x hx _ => Nat.eq_of_testBit_eq (fun i => by rw [Nat.zero_testBit]; exact bool_f (fun q => by have := hx i q; rw [h, Nat.zero_testBit] at this; cases this))
  have d0 : ∀ v, dg fr to 0 ne v = 0 := fun v => dg_none ne (fun e _ h => by rw [Nat.zero_testBit] at h; cases h)
  intro f
  induction f with
  | zero =>
    intro a sn y h hs ha
    have h : a = en ∧ y = 0 := by simpa [psB] using h
    exact ⟨fun q => absurd h.1 q, fun _ => h.2, z0 y h.2⟩
  | succ f ih =>
    intro a sn y h hs ha
    by_cases q : a = en
    · subst q
      rw [psB_end] at h
      have h : y = 0 := by simpa using h
      exact ⟨fun q => absurd rfl q, fun _ => h, z0 y h⟩
    · obtain ⟨e, e1, e3, hu, e2, h5⟩ := (psB_ex q).mp h
      have ho := oth_ends e3
      have tl := ps_tail hs hu h5
      have fl := fun v => dg_flip (fr := fr) (to := to) (v := v) e2 ne (by omega)
      have hne : oth fr to e a ≠ a := fun h => by rw [h, hs] at hu; cases hu
      have hlt : oth fr to e a < nv := by have := hN e (by omega); rcases ho with h | h <;> omega
      obtain ⟨i1, i2, i3⟩ := ih _ _ _ h5 (sn_bit.mpr (.inr rfl)) hlt
      have fl2 : ∀ v, dg fr to y ne v = dg fr to (y ^^^ 2 ^ e) ne v + ((if v = a then 1 else 0) + (if v = oth fr to e a then 1 else 0)) := fun v => by
        rw [fl v]
        rcases ho with ⟨h1, h2⟩ | ⟨h1, h2⟩
        · rw [h1, ← h2]; grind
        · rw [h2, ← h1]; grind
      have f0 : dg fr to (y ^^^ 2 ^ e) ne a = 0 := dg_none ne (fun i _ hi => tl i hi)
      generalize hv : oth fr to e a = v at *
      refine ⟨fun _ => ?_, fun h => absurd h q, fun x hx he => ?_⟩
      · have d1 := fl2 a
        have d2 := fl2 en
        rw [if_pos rfl, if_neg (fun h => hne h.symm)] at d1
        rw [if_neg (fun h => q h.symm)] at d2
        by_cases q2 : v = en
        · have y0 := i2 q2
          rw [y0] at fl2 d2
          rw [if_pos q2.symm, d0] at d2
          refine ⟨by omega, by omega, fun x x1 x2 => ?_⟩
          have d3 := fl2 x
          rw [d0, if_neg x1, if_neg (fun h => x2 (h.trans q2))] at d3; omega
        · obtain ⟨j1, j2, j3⟩ := i1 q2
          rw [if_neg (fun h => q2 h.symm)] at d2
          refine ⟨by omega, by omega, fun x x1 x2 => ?_⟩
          have d3 := fl2 x
          rw [if_neg x1] at d3
          by_cases xv : x = v
          · rw [if_pos xv, xv, j1] at d3; rw [xv]; omega
          · rw [if_neg xv] at d3
            have := j3 x xv x2
            omega
      · cases xe : x.testBit e with
        | true =>
          exfalso
          have g1 := dg_flip (fr := fr) (to := to) (v := a) xe ne (by omega)
          have g0 : dg fr to (x ^^^ 2 ^ e) ne a = 0 := dg_none ne (fun i _ hi => tl i (by
            by_cases ie : i = e
            · rw [ie, flip_self, xe] at hi; cases hi
            · rw [flip_bit ie] at hi ⊢; exact hx i hi))
          have g2 := he a ha
          rw [g0] at g1
          rcases ho with ⟨h1, h2⟩ | ⟨h1, h2⟩
          · rw [if_pos h1, if_neg (by omega)] at g1; omega
          · rw [if_neg (by omega), if_pos h2] at g1; omega
        | false =>
          exact i3 x (fun i hi => by
            by_cases ie : i = e
            · rw [ie, xe] at hi; cases hi
            · rw [flip_bit ie]; exact hx i hi) he
theorem dim1_min {fr to : Nat → Nat} {nv m z x : Nat} (hm : m ≤ 64) (hN : ∀ e, e < m → fr e < nv ∧ to e < nv) (hz : z < 2 ^ m) (h1 : (jRun fr to z m).2.2.1 = 1) (hez : evn fr to nv m z) (h0 : z ≠ 0) (hx : ∀ e, x.testBit e = true → z.testBit e = true) (he : evn fr to nv m x) : x = 0 ∨ x = z := by
  have ok := jOK_run (fr := fr) (to := to) (N := nv) (s := z) m hm (fun e h _ => hN e h)
  have hzb : ∀ e, z.testBit e = true → e < m := fun e h => by
    refine Nat.lt_of_not_le (fun q => ?_)
    rw [Nat.testBit_lt_two_pow (Nat.lt_of_lt_of_le hz (Nat.pow_le_pow_right (by omega) q))] at h; cases h
  have hxl : x < 2 ^ m := Nat.lt_pow_two_of_testBit _ (fun i hi => bool_f (fun h => by have := hzb i (hx i h); omega))
  have key : ∀ y, (∀ e, y.testBit e = true → z.testBit e = true) → y < 2 ^ m → evn fr to nv m y → y = 0 ∨ y = (jRun fr to z m).2.2.2.1 0 := by
    intro y hy hyl hye
    have sp := jOK_span ok ((evn_bd hm hN hyl).mp hye) (fun e h => ⟨hzb e (hy e h), hy e h⟩)
    rw [h1] at sp
    have lt := nb_lt (fun i => y.testBit ((jRun fr to z m).2.2.2.2 i)) 1
    generalize nb (fun i => y.testBit ((jRun fr to z m).2.2.2.2 i)) 1 = c at *
    rcases (show c = 0 ∨ c = 1 by omega) with q | q
    · left; rw [sp, q, cb_0]
    · right; rw [sp, q, show (1 : Nat) = 2 ^ 0 from rfl, cb_pow _ (by omega)]
  rcases key x hx hxl he with q | q
  · exact .inl q
  · rcases key z (fun _ h => h) hz hez with r | r
    · exact absurd r h0
    · exact .inr (q.trans r.symm)
theorem dim1_of {fr to : Nat → Nat} {nv m z : Nat} (hm : m ≤ 64) (hN : ∀ e, e < m → fr e < nv ∧ to e < nv) (hz : z < 2 ^ m) (hez : evn fr to nv m z) (h0 : z ≠ 0) (h : ∀ x, (∀ e, x.testBit e = true → z.testBit e = true) → evn fr to nv m x → x = 0 ∨ x = z) : (jRun fr to z m).2.2.1 = 1 := by
  have ok := jOK_run (fr := fr) (to := to) (N := nv) (s := z) m hm (fun e h _ => hN e h)
  have hzb : ∀ e, z.testBit e = true → e < m := fun e h => by
    refine Nat.lt_of_not_le (fun q => ?_)
    rw [Nat.testBit_lt_two_pow (Nat.lt_of_lt_of_le hz (Nat.pow_le_pow_right (by omega) q))] at h; cases h
  have sp := jOK_span ok ((evn_bd hm hN hz).mp hez) (fun e h => ⟨hzb e h, h⟩)
  rcases (show (jRun fr to z m).2.2.1 = 0 ∨ (jRun fr to z m).2.2.1 = 1 ∨ 2 ≤ (jRun fr to z m).2.2.1 by omega) with q | q | q
  · rw [q] at sp; exact absurd sp h0
  · exact q
  · exfalso
    have rg : ∀ i, i < (jRun fr to z m).2.2.1 → (jRun fr to z m).2.2.2.1 i = z := fun i hi => by
      obtain ⟨a, b, c, d, e⟩ := ok.2.2.2.2.1 i hi
      have hl : (jRun fr to z m).2.2.2.1 i < 2 ^ m := Nat.lt_pow_two_of_testBit _ (fun j hj => bool_f (fun h => by have := (d j h).1; omega))
      rcases h _ (fun j hj => (d j hj).2) ((evn_bd hm hN hl).mpr c) with r | r
      · have := e i hi
        rw [r, Nat.zero_testBit] at this; simp at this
      · exact r
    have a := (ok.2.2.2.2.1 0 (by omega)).2.2.2.2 1 (by omega)
    have b := (ok.2.2.2.2.1 1 (by omega)).2.2.2.2 1 (by omega)
    rw [rg 0 (by omega)] at a
    rw [rg 1 (by omega), a] at b
    simp at b
theorem rng_path {fr to : Nat → Nat} {nv ne e y : Nat} (hm : ne ≤ 64) (hnv : nv ≤ 16) (hN : ∀ e, e < ne → fr e < nv ∧ to e < nv) (he : e < ne) (hy : y < 2 ^ e) : (evn fr to nv ne (y ^^^ 2 ^ e) ∧ (jRun fr to (y ^^^ 2 ^ e) ne).2.2.1 = 1) ↔ psB fr to e (to e) 15 (fr e) (2 ^ fr e) y = true := by
  have hyb : ∀ i, y.testBit i = true → i < e := fun i h => by
    refine Nat.lt_of_not_le (fun q => ?_)
    rw [Nat.testBit_lt_two_pow (Nat.lt_of_lt_of_le hy (Nat.pow_le_pow_right (by omega) q))] at h; cases h
  have hye : y.testBit e = false := bool_f (fun h => by have := hyb e h; omega)
  have hze : (y ^^^ 2 ^ e).testBit e = true := by rw [flip_self, hye]; rfl
  have hzl : y ^^^ 2 ^ e < 2 ^ ne := Nat.xor_lt_two_pow (Nat.lt_of_lt_of_le hy (Nat.pow_le_pow_right (by omega) (by omega))) (Nat.pow_lt_pow_right (by omega) he)
  have hz0 : y ^^^ 2 ^ e ≠ 0 := fun h => by rw [h, Nat.zero_testBit] at hze; cases hze
  have fl : ∀ v, dg fr to (y ^^^ 2 ^ e) ne v = dg fr to y ne v + ((if fr e = v then 1 else 0) + (if to e = v then 1 else 0)) := fun v => by
    have := dg_flip (fr := fr) (to := to) (v := v) hze ne he
    rw [xor_can] at this; exact this
  have hy2 : ∀ i, y.testBit i = true → (y ^^^ 2 ^ e).testBit i = true := fun i h => by rw [flip_bit (by have := hyb i h; omega)]; exact h
  have ends := hN e he
  constructor
  · rintro ⟨h1, h2⟩
    have two := ring_two hm hN hzl h1 h2
    have sb : ∀ s, (2 ^ fr e).testBit s = true ↔ s = fr e := fun s => by rw [Nat.testBit_two_pow]; simp; exact ⟨Eq.symm, Eq.symm⟩
    refine ps_of (by omega) hnv hN ends.2 15 (fr e) (2 ^ fr e) y hyb ends.1 ((sb _).mpr rfl) (fun x hx hev => ?_) (fun i _ s s1 s2 => absurd ((sb s).mp s1) s2) (fun q => ?_) (fun q v hv => ?_) ?_
    · rcases dim1_min hm hN hzl h2 h1 hz0 (fun i hi => hy2 i (hx i hi)) hev with r | r
      · exact r
      · exfalso
        have : x.testBit e = true := by rw [r]; exact hze
        rw [hx e this] at hye; cases hye
    · have a1 := fl (fr e)
      have a2 := fl (to e)
      rw [if_pos rfl, if_neg (fun h => q h.symm)] at a1
      rw [if_neg q, if_pos rfl] at a2
      have b1 := two _ ends.1
      have b2 := two _ ends.2
      have c1 := h1 _ ends.1
      have c2 := h1 _ ends.2
      refine ⟨by omega, by omega, fun v hv v1 v2 => ?_⟩
      have a3 := fl v
      rw [if_neg (fun h => v1 h.symm), if_neg (fun h => v2 h.symm)] at a3
      have b3 := two v hv
      have c3 := h1 v hv
      omega
    · have a3 := fl v
      have c3 := h1 v hv
      rw [q] at a3
      split at a3 <;> omega
    · have : ct0 16 (fun v => !(2 ^ fr e).testBit v) + 1 ≤ ct0 16 (fun _ => true) := ct_more (a := fr e) (fun _ _ _ => rfl) (by omega) (by simp [(sb _).mpr rfl]) rfl
      have := ct0_le 16 (fun _ => true)
      omega
  · intro h
    obtain ⟨d1, d2, d3⟩ := ps_deg (by omega) hN 15 (fr e) (2 ^ fr e) y h (by simp) ends.1
    have hev : evn fr to nv ne (y ^^^ 2 ^ e) := fun v hv => by
      have a3 := fl v
      by_cases q : fr e = to e
      · have y0 := d2 q
        have yz : dg fr to y ne v = 0 := by rw [y0]; exact dg_none ne (fun i _ hi => by rw [Nat.zero_testBit] at hi; cases hi)
        rw [yz, q] at a3
        split at a3 <;> omega
      · obtain ⟨g1, g2, g3⟩ := d1 q
        by_cases v1 : v = fr e
        · rw [v1] at a3 ⊢; rw [if_pos rfl, if_neg (fun h => q h.symm)] at a3; omega
        · by_cases v2 : v = to e
          · rw [v2] at a3 ⊢; rw [if_neg q, if_pos rfl] at a3; omega
          · have := g3 v v1 v2
            rw [if_neg (fun h => v1 h.symm), if_neg (fun h => v2 h.symm)] at a3; omega
    refine ⟨hev, dim1_of hm hN hzl hev hz0 (fun x hx hxe => ?_)⟩
    have sub : ∀ x : Nat, (∀ i, x.testBit i = true → (y ^^^ 2 ^ e).testBit i = true) → x.testBit e = false → ∀ i, x.testBit i = true → y.testBit i = true := fun x hx h0 i hi => by
      have ie : i ≠ e := fun q => by rw [q, h0] at hi; cases hi
      have := hx i hi
      rw [flip_bit ie] at this; exact this
    cases xe : x.testBit e with
    | false => exact .inl (d3 x (sub x hx xe) hxe)
    | true =>
      right
      have hxl : x < 2 ^ ne := Nat.lt_pow_two_of_testBit _ (fun i hi => bool_f (fun h => by
        have := hx i h
        rw [Nat.testBit_lt_two_pow (Nat.lt_of_lt_of_le hzl (Nat.pow_le_pow_right (by omega) hi))] at this; cases this))
      have hwl : x ^^^ (y ^^^ 2 ^ e) < 2 ^ ne := Nat.xor_lt_two_pow hxl hzl
      have he2 : evn fr to nv ne (x ^^^ (y ^^^ 2 ^ e)) := (evn_bd hm hN hwl).mpr (fun v => by rw [bd_xor, (evn_bd hm hN hxl).mp hxe, (evn_bd hm hN hzl).mp hev]; rfl)
      have h0 : x ^^^ (y ^^^ 2 ^ e) = 0 := d3 _ (sub _ (fun i hi => by
        rw [Nat.testBit_xor] at hi
        cases c : (y ^^^ 2 ^ e).testBit i with
        | true => rfl
        | false =>
          rw [c, Bool.xor_false] at hi
          rw [hx i hi] at c; cases c) (by rw [Nat.testBit_xor, xe, hze]; rfl)) he2
      have := congrArg (fun t => t ^^^ (y ^^^ 2 ^ e)) h0
      have : (x ^^^ (y ^^^ 2 ^ e)) ^^^ (y ^^^ 2 ^ e) = 0 ^^^ (y ^^^ 2 ^ e) := this
      rw [xor_can, Nat.zero_xor] at this; exact this
