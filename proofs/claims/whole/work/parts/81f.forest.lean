-- leaving the first of each piece out, and coming upon the last of each piece, give the same
theorem grp_const {fr to : Nat → Nat} {N m s v : Nat} (hm : m ≤ 64) (hN : ∀ e, e < m → fr e < N ∧ to e < N) {S : Nat → Bool} (hv : v < N) (hc : ∀ e, e < m → s.testBit e = true → S (fr e) = S (to e)) : S ((jRun fr to s m).1 v) = S v := by
  obtain ⟨h1, h2, h3, h4, h5, h6⟩ := jOK_run (fr := fr) (to := to) (N := N) (s := s) m hm (fun e he _ => hN e he)
  have hx := cr_ends (N := N) (fun e he => hN e (h3 v hv e he).1) hv (h1 v hv) (h2 v hv) S
  have h0 : cr fr to ((jRun fr to s m).2.1 v) S = false := by
    unfold cr
    apply xs_false
    intro e _
    cases he : ((jRun fr to s m).2.1 v).testBit e with
    | false => rfl
    | true => rw [hc e (h3 v hv e he).1 (h3 v hv e he).2.1]; cases S (to e) <;> rfl
  rw [h0] at hx
  revert hx
  cases S v <;> cases S ((jRun fr to s m).1 v) <;> simp
theorem layM_l1 {po qo : Option Nat} {M : Nat → Nat → Int} {a b len : Nat} {vx : Nat → Nat} (ha : ∀ p, p < len → (vx p = a ↔ po = some p)) (hb : ∀ p, p < len → (vx p = b ↔ qo = some p)) (hab : a ≠ b) (hi : ∀ p r, p < len → r < len → vx p = vx r → p = r) : ∀ p r, p < len → r < len → layM po qo M p r = M p r + l1 a b (vx p) (vx r) := by
  intro p r hp hr
  have a1 := ha p hp
  have a2 := ha r hr
  have b1 := hb p hp
  have b2 := hb r hr
  have i1 : vx p = vx r ↔ p = r := ⟨hi p r hp hr, fun e => by rw [e]⟩
  unfold l1
  cases po with
  | none =>
    cases qo with
    | none => simp only [reduceCtorEq, iff_false] at a1 a2 b1 b2; simp [layM, a1, a2, b1, b2]
    | some b0 => simp only [reduceCtorEq, iff_false, Option.some.injEq] at a1 a2 b1 b2; simp only [layM, mup, i1, a1, a2, b1, b2]; grind
  | some a0 =>
    cases qo with
    | none => simp only [reduceCtorEq, iff_false, Option.some.injEq] at a1 a2 b1 b2; simp only [layM, mup, i1, a1, a2, b1, b2]; grind
    | some b0 =>
      simp only [Option.some.injEq] at a1 a2 b1 b2
      simp only [layM, mup, i1, a1, a2, b1, b2]
      have hne : p = a0 → ¬ p = b0 := fun e1 e2 => hab ((a1.mpr e1.symm).symm.trans (b1.mpr e2.symm))
      have hne2 : r = a0 → ¬ r = b0 := fun e1 e2 => hab ((a2.mpr e1.symm).symm.trans (b2.mpr e2.symm))
      grind
noncomputable def nfb (fr to : Nat → Nat) (ne : Nat) (q : JS) (v : Nat) : Bool := @decide (q.1 v = v ∧ fsP fr to ne q v v) (Classical.propDecidable _)
theorem nfb_t {fr to : Nat → Nat} {ne v : Nat} {q : JS} : nfb fr to ne q v = true ↔ q.1 v = v ∧ fsP fr to ne q v v := by unfold nfb; exact @decide_eq_true_iff _ (Classical.propDecidable _)
noncomputable def nfl (fr to : Nat → Nat) (ne : Nat) (q : JS) (n : Nat) : List Nat := (List.range n).filter (nfb fr to ne q)
theorem nfl_y {fr to : Nat → Nat} {ne v : Nat} {q : JS} (h : q.1 v = v ∧ fsP fr to ne q v v) : nfl fr to ne q (v + 1) = nfl fr to ne q v ++ [v] := by
  unfold nfl; rw [List.range_succ, List.filter_append]; simp [List.filter, nfb_t.mpr h]
theorem nfl_n {fr to : Nat → Nat} {ne v : Nat} {q : JS} (h : ¬ (q.1 v = v ∧ fsP fr to ne q v v)) : nfl fr to ne q (v + 1) = nfl fr to ne q v := by
  unfold nfl; rw [List.range_succ, List.filter_append]; simp [List.filter, bool_f (fun h2 => h (nfb_t.mp h2))]
theorem nfl_mem {fr to : Nat → Nat} {ne n v : Nat} {q : JS} : v ∈ nfl fr to ne q n ↔ v < n ∧ q.1 v = v ∧ fsP fr to ne q v v := by
  unfold nfl; rw [List.mem_filter, List.mem_range, nfb_t]
theorem getD_l {L K : List Nat} {p : Nat} (h : p < L.length) : (L ++ K).getD p 0 = L.getD p 0 := by simp [List.getD, List.getElem?_append_left h]
theorem plc_len {fr to : Nat → Nat} {ne : Nat} {q : JS} : ∀ n, (plc fr to ne q n).1 = (nfl fr to ne q n).length
  | 0 => rfl
  | n + 1 => by
    have ih := plc_len (fr := fr) (to := to) (ne := ne) (q := q) n
    by_cases h : q.1 n = n ∧ fsP fr to ne q n n
    · rw [plc_y h, nfl_y h, List.length_append, ← ih]; rfl
    · rw [plc_n h, nfl_n h]; exact ih
theorem plc_at {fr to : Nat → Nat} {ne : Nat} {q : JS} : ∀ n v p, (plc fr to ne q n).2 v = some p ↔ p < (nfl fr to ne q n).length ∧ (nfl fr to ne q n).getD p 0 = v
  | 0, v, p => Iff.intro (fun h => by cases h) (fun h => absurd h.1 (Nat.not_lt_zero p))
  | n + 1, v, p => by
    have ih := plc_at (fr := fr) (to := to) (ne := ne) (q := q) n v p
    have hl := plc_len (fr := fr) (to := to) (ne := ne) (q := q) n
    by_cases h : q.1 n = n ∧ fsP fr to ne q n n
    · rw [plc_y h, nfl_y h, List.length_append]
      show va_up (plc fr to ne q n).2 n (some (plc fr to ne q n).1) v = some p ↔ p < _ + 1 ∧ _
      by_cases e : v = n
      · subst e
        rw [up_self, Option.some.injEq, hl]
        constructor
        · rintro rfl; exact ⟨by omega, by simp⟩
        · rintro ⟨h1, h2⟩
          rcases Nat.lt_or_ge p (nfl fr to ne q v).length with r | r
          · rw [getD_l r] at h2
            have : (nfl fr to ne q v).getD p 0 ∈ nfl fr to ne q v := by rw [List.getD_eq_getElem?_getD, List.getElem?_eq_getElem r]; exact List.getElem_mem _
            rw [h2] at this
            have := (nfl_mem.mp this).1
            omega
          · omega
      · rw [up_ne e, ih]
        constructor
        · rintro ⟨h1, h2⟩; exact ⟨by omega, by rw [getD_l h1]; exact h2⟩
        · rintro ⟨h1, h2⟩
          rcases Nat.lt_or_ge p (nfl fr to ne q n).length with r | r
          · rw [getD_l r] at h2; exact ⟨r, h2⟩
          · have : p = (nfl fr to ne q n).length := by omega
            subst this
            have h3 : n = v := by simpa using h2
            exact absurd h3.symm e
    · rw [plc_n h, nfl_n h]; exact ih
theorem okL_of {n : Nat} : ∀ {L : List Nat} {X : Nat → Bool}, L.Nodup → (∀ v, v ∈ L → v < n ∧ X v = true) → okL n X L := by
  intro L; induction L with
  | nil => intro X _ _; trivial
  | cons p L ih =>
    intro X h1 h2
    rw [List.nodup_cons] at h1
    exact ⟨(h2 p List.mem_cons_self).1, (h2 p List.mem_cons_self).2, ih h1.2 (fun v hv => ⟨(h2 v (List.mem_cons_of_mem _ hv)).1, rmv_t.mpr ⟨(h2 v (List.mem_cons_of_mem _ hv)).2, fun e => h1.1 (by rw [← e]; exact hv)⟩⟩)⟩
theorem okL_inj {n : Nat} {L : List Nat} {X : Nat → Bool} (h : okL n X L) {p r : Nat} (hp : p < L.length) (hr : r < L.length) (e : L.getD p 0 = L.getD r 0) : p = r := by
  have key : ∀ p r, p < r → r < L.length → L.getD p 0 ≠ L.getD r 0 := by
    intro p r hpr hr e
    have := (okL_at h (k := p + 1) (show p + 1 ≤ r by omega) hr).2
    rw [rmvs_t] at this
    apply this.2
    rw [← e, take_s (by omega)]
    simp
  rcases Nat.lt_trichotomy p r with q | q | q
  · exact absurd e (key p r q hr)
  · exact q
  · exact absurd e.symm (key r p q hp)
theorem lapM_lg {fr to : Nat → Nat} {ne nv : Nat} {q : JS} (ok : okL nv (fun _ => true) (nfl fr to ne q nv)) : ∀ m a b, a < (nfl fr to ne q nv).length → b < (nfl fr to ne q nv).length → lapM fr to ne nv q m a b = lgI fr to q m ((nfl fr to ne q nv).getD a 0) ((nfl fr to ne q nv).getD b 0)
  | 0, _, _, _, _ => rfl
  | m + 1, a, b, ha, hb => by
    have ih := lapM_lg ok m
    by_cases h : q.1 (fr m) = q.1 (to m)
    · rw [lapM_s h, lgI_s h]; exact ih a b ha hb
    · rw [lapM_d h, lgI_d h, layM_l1 (len := (nfl fr to ne q nv).length) (a := q.1 (fr m)) (b := q.1 (to m)) (vx := fun i => (nfl fr to ne q nv).getD i 0) (fun p hp => by rw [plc_at]; exact ⟨fun e => ⟨hp, e⟩, fun e => e.2⟩) (fun p hp => by rw [plc_at]; exact ⟨fun e => ⟨hp, e⟩, fun e => e.2⟩) h (fun p r hp hr e => okL_inj ok hp hr e) a b ha hb, ih a b ha hb]
theorem fsP_least {fr to : Nat → Nat} {ne : Nat} {q : JS} : ∀ n v, v ≤ n → q.1 v = v → ∃ f, f ≤ v ∧ q.1 f = f ∧ ¬ fsP fr to ne q f f ∧ (jRun fr to (fl ne) ne).1 f = (jRun fr to (fl ne) ne).1 v
  | 0, v, hv, h => by
    have e : v = 0 := by omega
    subst e
    exact ⟨0, Nat.le_refl _, h, fsP_0, rfl⟩
  | n + 1, v, hv, h => by
    by_cases hf : fsP fr to ne q v v
    · obtain ⟨u, h1, h2, h3⟩ := hf
      obtain ⟨f, a, b, c, d⟩ := fsP_least n u (by omega) h2
      exact ⟨f, by omega, b, c, d.trans h3⟩
    · exact ⟨v, Nat.le_refl _, h, hf, rfl⟩
theorem forest_tie {fr to : Nat → Nat} {nv ne z : Nat} (hn : nv ≤ 16) (hm : ne ≤ 29) (hN : ∀ e, e < ne → fr e < nv ∧ to e < nv) :
    bC (plc fr to ne (jRun fr to z ne) nv).1 (lapM fr to ne nv (jRun fr to z ne) ne) ∧
    (bs (plc fr to ne (jRun fr to z ne) nv).1 (lapM fr to ne nv (jRun fr to z ne) ne) (plc fr to ne (jRun fr to z ne) nv).1).2 = (bsz nv (lgI fr to (jRun fr to z ne) ne) nv).2 ∧
    ∀ k, k ≤ nv → (0 < (bsz nv (lgI fr to (jRun fr to z ne) ne) k).2 ∧ (bsz nv (lgI fr to (jRun fr to z ne) ne) k).2 < 2147483648) ∧ ∀ i j, i < nv → j < nv → -2147483648 < (bsz nv (lgI fr to (jRun fr to z ne) ne) k).1 i j ∧ (bsz nv (lgI fr to (jRun fr to z ne) ne) k).1 i j < 2147483648 := by
  have hj : jI nv (jRun fr to z ne) := jI_run ne (fun e he _ => hN e he)
  have hcm : ∀ v, v < nv → (jRun fr to (fl ne) ne).1 ((jRun fr to z ne).1 v) = (jRun fr to (fl ne) ne).1 v := fun v hv => by
    have := grp_const (s := z) (S := fun x => (jRun fr to (fl ne) ne).1 x == (jRun fr to (fl ne) ne).1 v) (by omega) hN hv (fun e he _ => by
      show ((jRun fr to (fl ne) ne).1 (fr e) == _) = ((jRun fr to (fl ne) ne).1 (to e) == _)
      rw [ends_same (by omega) hN he])
    have : ((jRun fr to (fl ne) ne).1 ((jRun fr to z ne).1 v) == (jRun fr to (fl ne) ne).1 v) = ((jRun fr to (fl ne) ne).1 v == (jRun fr to (fl ne) ne).1 v) := this
    simpa using this
  generalize hq : jRun fr to z ne = q at *
  have hk : ∀ k, k < ne → q.1 (fr k) < nv ∧ q.1 (to k) < nv := fun k h => ⟨(hj _ (hN k h).1).1, (hj _ (hN k h).2).1⟩
  have hlp := lgI_lp hk
  have hnd : (nfl fr to ne q nv).Nodup := List.Pairwise.filter _ List.nodup_range
  have ok : okL nv (fun _ => true) (nfl fr to ne q nv) := okL_of hnd (fun v hv => ⟨(nfl_mem.mp hv).1, rfl⟩)
  have okr : okL nv (fun _ => true) (List.range nv) := okL_of List.nodup_range (fun v hv => ⟨List.mem_range.mp hv, rfl⟩)
  have hd : ∀ i, lgI fr to q ne i i = (dgI fr to q ne i : Int) := lgI_dg ne
  have hs : sN nv (dgI fr to q ne) ≤ 58 := Nat.le_trans (dgI_sum ne) (by omega)
  have hlen := plc_len (fr := fr) (to := to) (ne := ne) (q := q) nv
  have hA := lapM_lg ok ne
  rw [hlen]
  -- the pivots
  have hpv : ∀ k, k < (nfl fr to ne q nv).length → ¬ (bsz (nfl fr to ne q nv).length (lapM fr to ne nv q ne) k).1 k k = 0 := by
    intro k hk2 h0
    have hb := (bsz_q rfl hA hlp ok k (by omega)).2 k k (Nat.le_refl _) (Nat.le_refl _) hk2 hk2
    rw [h0] at hb
    have hP := (hlp.bd (M := qq (lgI fr to q ne)) (okL_take (k := k) ok) (fun _ _ _ => Rat.le_refl))
    have h0 : qEs (qq (lgI fr to q ne)) ((nfl fr to ne q nv).take k) ((nfl fr to ne q nv).getD k 0) ((nfl fr to ne q nv).getD k 0) = 0 := by
      have hb : (0 : Rat) = _ := hb
      have := hP.1
      grind
    obtain ⟨v1, v2⟩ := okL_at ok (Nat.le_refl k) hk2
    have vm : (nfl fr to ne q nv).getD k 0 ∈ nfl fr to ne q nv := by rw [List.getD_eq_getElem?_getD, List.getElem?_eq_getElem hk2]; exact List.getElem_mem _
    generalize (nfl fr to ne q nv).getD k 0 = v at *
    obtain ⟨-, hv2, hv3⟩ := nfl_mem.mp vm
    obtain ⟨f, f1, f2, f3, f4⟩ := fsP_least (fr := fr) (to := to) (ne := ne) v v (Nat.le_refl v) hv2
    have fnf : f ∉ nfl fr to ne q nv := fun h => f3 (nfl_mem.mp h).2.2
    have fv : f ≠ v := fun e => f3 (by rw [e]; exact hv3)
    obtain ⟨Y0, y1, y2⟩ := clo.ups (Y := fun i => i == v) hlp (okL_take (k := k) ok) (fun i j hi hj xi xj yi yj => by
      have e : i = v := by simpa using yi
      rw [e]; rw [e] at xi hi
      exact hP.2.2.1.zr hi hj xi xj h0)
    have tk : ∀ x, x ∈ (nfl fr to ne q nv).take k → x ∈ nfl fr to ne q nv := fun x hx => List.mem_of_mem_take hx
    have y3 : Y0 v = true := by rw [y2 v (rmvs_t.mp v2).2]; simp
    have y4 : Y0 f = false := by rw [y2 f (fun h => fnf (tk f h))]; simp [fv]
    have ed : ∀ e, e < ne → Y0 (q.1 (fr e)) = Y0 (q.1 (to e)) := by
      intro e he
      by_cases h : q.1 (fr e) = q.1 (to e)
      · rw [h]
      · have n1 := lgI_edge h ne he
        have key : ∀ a b, lgI fr to q ne a b < 0 → a < nv → b < nv → Y0 a = true → Y0 b = false → False := fun a b h1 ha hb h2 h3 => by
          have := y1 a b ha hb rfl rfl h2 h3
          have : lgI fr to q ne a b = 0 := Rat.intCast_inj.mp this
          omega
        cases c1 : Y0 (q.1 (fr e)) with
        | true =>
          cases c2 : Y0 (q.1 (to e)) with
          | true => rfl
          | false => exact (key _ _ n1 (hk e he).1 (hk e he).2 c1 c2).elim
        | false =>
          cases c2 : Y0 (q.1 (to e)) with
          | false => rfl
          | true => exact (key _ _ (by rw [lgI_sym]; exact n1) (hk e he).2 (hk e he).1 c2 c1).elim
    have := hang_all (S := fun x => Y0 (q.1 x)) (u := v) (v := f) (by omega) hN v1 (by omega) (by show Y0 (q.1 v) = true; rw [hv2]; exact y3) ed f4.symm
    have : Y0 (q.1 f) = true := this
    rw [f2, y4] at this; cases this
  have hbs : ∀ k, k ≤ (nfl fr to ne q nv).length → bs (nfl fr to ne q nv).length (lapM fr to ne nv q ne) k = bsz (nfl fr to ne q nv).length (lapM fr to ne nv q ne) k := fun k h => bs_bsz k (fun j hj2 => hpv j (by omega))
  have hbb := bsz_b rfl hA hlp ok hd hn hs
  refine ⟨fun k h => ?_, ?_, bsz_b (len := nv) (L := List.range nv) (A := lgI fr to q ne) (M := lgI fr to q ne) List.length_range (fun a b ha hb => by rw [show (List.range nv).getD a 0 = a by simp [List.getD, ha], show (List.range nv).getD b 0 = b by simp [List.getD, hb]]) hlp okr hd hn hs⟩
  · rw [hbs k (by omega)]
    have := hbb k (by omega)
    exact ⟨⟨by omega, by omega, this.1.2⟩, this.2⟩
  · rw [hbs _ (Nat.le_refl _)]
    apply Rat.intCast_inj.mp
    rw [(bsz_q rfl hA hlp ok _ (Nat.le_refl _)).1, (bsz_q (len := nv) (L := List.range nv) (A := lgI fr to q ne) (M := lgI fr to q ne) List.length_range (fun a b ha hb => by rw [show (List.range nv).getD a 0 = a by simp [List.getD, ha], show (List.range nv).getD b 0 = b by simp [List.getD, hb]]) hlp okr nv (Nat.le_refl _)).1, List.take_length, List.take_of_length_le (by rw [List.length_range]; omega)]
    have hpm := List.filter_append_perm (nfb fr to ne q) (List.range nv)
    have hpp := ((qP_perm hpm.symm (fun _ => true) okr).2.2 _ hlp).1
    rw [hpp, qP_app]
    show qP _ (nfl fr to ne q nv) = qP _ (nfl fr to ne q nv) * qP (qEs _ (nfl fr to ne q nv)) _
    have hP := (hlp.bd (M := qq (lgI fr to q ne)) ok (fun _ _ _ => Rat.le_refl)).2.2.1
    have hz : ∀ r, r < nv → r ∉ nfl fr to ne q nv → qEs (qq (lgI fr to q ne)) (nfl fr to ne q nv) r r = 0 := by
      intro r hr hrn
      have xr : rmvs (fun _ => true) (nfl fr to ne q nv) r = true := rmvs_t.mpr ⟨rfl, hrn⟩
      have hc : ∃ Y : Nat → Bool, clo nv (fun _ => true) (qq (lgI fr to q ne)) Y ∧ Y r = true ∧ ∀ r2, r2 < nv → r2 ≠ r → r2 ∉ nfl fr to ne q nv → Y r2 = false := by
        by_cases c : q.1 r = r
        · refine ⟨fun x => q.1 x == x && (jRun fr to (fl ne) ne).1 x == (jRun fr to (fl ne) ne).1 r, fun i j hi hj2 _ _ yi yj => ?_, by simp [c], fun r2 hr2 h2 h3 => ?_⟩
          · have yi : q.1 i = i ∧ (jRun fr to (fl ne) ne).1 i = (jRun fr to (fl ne) ne).1 r := by simpa using yi
            have yj : ¬ (q.1 j = j ∧ (jRun fr to (fl ne) ne).1 j = (jRun fr to (fl ne) ne).1 r) := fun h => by
              have yj : (q.1 j == j && (jRun fr to (fl ne) ne).1 j == (jRun fr to (fl ne) ne).1 r) = false := yj
              rw [h.1, h.2] at yj; simp at yj
            have hij : i ≠ j := fun e => yj (by rw [← e]; exact yi)
            show ((lgI fr to q ne i j : Int) : Rat) = 0
            rw [lgI_zero hij ne]; rfl
            intro e he
            have s1 : (jRun fr to (fl ne) ne).1 (q.1 (fr e)) = (jRun fr to (fl ne) ne).1 (q.1 (to e)) := by rw [hcm _ (hN e he).1, hcm _ (hN e he).2]; exact ends_same (by omega) hN he
            have r1 := (hj _ (hN e he).1).2
            have r2 := (hj _ (hN e he).2).2
            refine ⟨fun h => yj ?_, fun h => yj ?_⟩
            · rw [← h.2, r2]; refine ⟨rfl, ?_⟩; rw [← s1, h.1]; exact yi.2
            · rw [← h.1, r1]; refine ⟨rfl, ?_⟩; rw [s1, h.2]; exact yi.2
          · cases hb : (q.1 r2 == r2 && (jRun fr to (fl ne) ne).1 r2 == (jRun fr to (fl ne) ne).1 r) with
            | false => exact hb
            | true =>
              have hb : q.1 r2 = r2 ∧ (jRun fr to (fl ne) ne).1 r2 = (jRun fr to (fl ne) ne).1 r := by simpa using hb
              rcases Nat.lt_or_ge r2 r with l | l
              · exact (hrn (nfl_mem.mpr ⟨hr, c, r2, l, hb.1, hb.2⟩)).elim
              · exact (h3 (nfl_mem.mpr ⟨hr2, hb.1, r, by omega, c, hb.2.symm⟩)).elim
        · refine ⟨fun x => x == r, fun i j hi hj2 _ _ yi yj => ?_, by simp, fun r2 _ h2 _ => by simp [h2]⟩
          have yi : i = r := by simpa using yi
          have yj : ¬ j = r := fun e => by
            have yj : (j == r) = false := yj
            rw [e] at yj; simp at yj
          show ((lgI fr to q ne i j : Int) : Rat) = 0
          rw [lgI_zero (by omega) ne]; rfl
          intro e he
          have r1 := (hj _ (hN e he).1).2
          have r2 := (hj _ (hN e he).2).2
          exact ⟨fun h => c (by rw [← yi, ← h.1]; exact r1), fun h => c (by rw [← yi, ← h.2]; exact r2)⟩
      obtain ⟨Y, c1, c2, c3⟩ := hc
      have c4 := c1.els ok
      have h3 := hP.2.2 r hr xr
      rw [qs_one hr (fun i hi hir => by
        by_cases xi : rmvs (fun _ => true) (nfl fr to ne q nv) i = true
        · rw [if_pos xi]; exact c4 r i hr hi xr xi c2 (c3 i hi hir (rmvs_t.mp xi).2)
        · rw [if_neg xi]), if_pos xr] at h3
      exact h3
    have hone : ∀ (K : List Nat) (S : QM), (∀ r, r ∈ K → S r r = 0) → qP S K = 1 := by
      intro K; induction K with
      | nil => intro S _; rfl
      | cons p K ih =>
        intro S h
        show _ * qP (qE S p) K = 1
        rw [qE_z (h p List.mem_cons_self), if_pos (h p List.mem_cons_self), ih S (fun r hr => h r (List.mem_cons_of_mem _ hr)), Rat.mul_one]
    rw [hone ((List.range nv).filter (fun x => !nfb fr to ne q x)) (qEs (qq (lgI fr to q ne)) (nfl fr to ne q nv)) (fun r hr => by
      rw [List.mem_filter] at hr
      refine hz r (List.mem_range.mp hr.1) (fun h => ?_)
      have h2 := (nfl_mem.mp h).2
      have := hr.2
      rw [nfb_t.mpr h2] at this; cases this), Rat.mul_one]
