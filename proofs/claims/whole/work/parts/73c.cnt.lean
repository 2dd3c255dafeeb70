theorem bc_dv {a u : Nat} (h : a < 256) : (a + 256 * u) / 256 = u := by omega
theorem bc_s2 {a b : Nat} (ha : a ≤ 8) (hb : b ≤ 8) : a + b < 256 := by omega
theorem bc_s4 {a b c d : Nat} (ha : a ≤ 8) (hb : b ≤ 8) (hc : c ≤ 8) (hd : d ≤ 8) : (a + b) + (c + d) < 256 := by omega
theorem bc_jn {a b u v : Nat} : (a + 256 * u) + (b + 256 * v) = (a + b) + 256 * (u + v) := by omega
theorem bc_en {a b u v : Nat} (ha : a ≤ 32) (hb : b ≤ 32) : ((a + 256 * u) + (b + 256 * v)) % 128 = a + b := by omega
theorem bc_ad {p q r s : Nat} (h : p = r) (k : q = s) : p + q = r + s := by rw [h, k]
theorem bc_fin {c0 c1 c2 c3 c4 c5 c6 c7 x X1 X2 X3 X4 X5 X6 X7 : Nat} (h0 : c0 ≤ 8) (h1 : c1 ≤ 8) (h2 : c2 ≤ 8) (h3 : c3 ≤ 8) (h4 : c4 ≤ 8) (h5 : c5 ≤ 8) (h6 : c6 ≤ 8) (h7 : c7 ≤ 8) {y4 y5 y6 : Nat}
    (hx : x = c0 + 256 * X1) (g1 : X1 = c1 + 256 * X2) (g2 : X2 = c2 + 256 * X3) (g3 : X3 = c3 + 256 * X4) (g4 : X4 = c4 + 256 * X5) (g5 : X5 = c5 + 256 * X6) (g6 : X6 = c6 + 256 * X7) (g7 : X7 = c7 + 256 * 0) (e4 : y4 = x + x / 256) (e5 : y5 = y4 + y4 / 65536) (e6 : y6 = y5 + y5 / 4294967296) : y6 % 128 = ((c0 + c1) + (c2 + c3)) + ((c4 + c5) + (c6 + c7)) := by
  have q4 : x / 256 = X1 := by rw [hx]; exact bc_dv (Nat.lt_of_le_of_lt h0 (by decide))
  have f4 : y4 = (c0 + c1) + 256 * (X1 + X2) := by rw [e4, q4, hx]; conv => lhs; arg 2; rw [g1]
                                                   exact bc_jn
  have a1 : X1 + X2 = (c1 + c2) + 256 * (X2 + X3) := (bc_ad g1 g2).trans bc_jn
  have a2 : X2 + X3 = (c2 + c3) + 256 * (X3 + X4) := (bc_ad g2 g3).trans bc_jn
  have a3 : X3 + X4 = (c3 + c4) + 256 * (X4 + X5) := (bc_ad g3 g4).trans bc_jn
  have a4 : X4 + X5 = (c4 + c5) + 256 * (X5 + X6) := (bc_ad g4 g5).trans bc_jn
  have a5 : X5 + X6 = (c5 + c6) + 256 * (X6 + X7) := (bc_ad g5 g6).trans bc_jn
  have a6 : X6 + X7 = (c6 + c7) + 256 * (X7 + 0) := (bc_ad g6 g7).trans bc_jn
  have q5 : y4 / 65536 = X2 + X3 := by
    rw [show (65536 : Nat) = 256 * 256 from rfl, ← Nat.div_div_eq_div_mul, f4, bc_dv (bc_s2 h0 h1), a1, bc_dv (bc_s2 h1 h2)]
  have f5 : y5 = ((c0 + c1) + (c2 + c3)) + 256 * ((X1 + X2) + (X3 + X4)) := by rw [e5, q5, f4, a2]; exact bc_jn
  have b1 : (X1 + X2) + (X3 + X4) = ((c1 + c2) + (c3 + c4)) + 256 * ((X2 + X3) + (X4 + X5)) := by rw [a1, a3]; exact bc_jn
  have b2 : (X2 + X3) + (X4 + X5) = ((c2 + c3) + (c4 + c5)) + 256 * ((X3 + X4) + (X5 + X6)) := by rw [a2, a4]; exact bc_jn
  have b3 : (X3 + X4) + (X5 + X6) = ((c3 + c4) + (c5 + c6)) + 256 * ((X4 + X5) + (X6 + X7)) := by rw [a3, a5]; exact bc_jn
  have b4 : (X4 + X5) + (X6 + X7) = ((c4 + c5) + (c6 + c7)) + 256 * ((X5 + X6) + (X7 + 0)) := by rw [a4, a6]; exact bc_jn
  have q6 : y5 / 4294967296 = (X4 + X5) + (X6 + X7) := by
    rw [show (4294967296 : Nat) = 256 * 256 * 256 * 256 from rfl, ← Nat.div_div_eq_div_mul, ← Nat.div_div_eq_div_mul, ← Nat.div_div_eq_div_mul, f5]
    rw [bc_dv (bc_s4 h0 h1 h2 h3), b1, bc_dv (bc_s4 h1 h2 h3 h4), b2, bc_dv (bc_s4 h2 h3 h4 h5), b3, bc_dv (bc_s4 h3 h4 h5 h6)]
  rw [e6, q6, f5, b4]
  exact bc_en (Nat.add_le_add (Nat.add_le_add h0 h1) (Nat.add_le_add h2 h3)) (Nat.add_le_add (Nat.add_le_add h4 h5) (Nat.add_le_add h6 h7))
theorem sz_0 (z : Nat) : sz z 0 = 0 := rfl
theorem bc_sum {z y3 y4 y5 y6 : Nat} (hz : z < 2 ^ 64) (e3 : y3 = bc3 (mM 15 8) (bc2 (mM 51 8) (bc1 (mM 85 8) z))) (e4 : y4 = y3 + y3 / 256) (e5 : y5 = y4 + y4 / 65536) (e6 : y6 = y5 + y5 / 4294967296) : y6 % 128 = sz z 64 := by
  rw [(bc_all 8 z (by rw [show (256 : Nat) ^ 8 = 2 ^ 64 from by decide +kernel]; exact hz)).2] at e3
  have hs : ∀ b, sz (b % 256) 8 ≤ 8 := fun b => ct0_le _ _
  have cs : ∀ n b, cnt8 (n + 1) b = sz (b % 256) 8 + 256 * cnt8 n (b / 256) := fun _ _ => rfl
  have := bc_fin (hs _) (hs _) (hs _) (hs _) (hs _) (hs _) (hs _) (hs _) (e3.trans (cs 7 z)) (cs 6 _) (cs 5 _) (cs 4 _) (cs 3 _) (cs 2 _) (cs 1 _) (cs 0 _) e4 e5 e6
  have zs : ∀ n b, sz b (8 + n) = sz (b % 256) 8 + sz (b / 256) n := fun n b => sz_cat b n
  rw [this, zs 56 z, zs 48 _, zs 40 _, zs 32 _, zs 24 _, zs 16 _, zs 8 _]
  have z8 : ∀ b, sz b 8 = sz (b % 256) 8 + 0 := fun b => zs 0 b
  rw [z8 (z / 256 / 256 / 256 / 256 / 256 / 256 / 256)]
  simp only [Nat.add_zero, Nat.add_assoc]
