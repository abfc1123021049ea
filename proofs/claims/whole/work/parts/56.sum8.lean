/-- the sum of eight bytes' counts, as the JDK adds them -/
theorem dvq {a p X m : Nat} (h : a = p + m * X) (hp : p < m) : a / m = X := by rw [h, Nat.add_mul_div_left _ _ (Nat.lt_of_le_of_lt (Nat.zero_le _) hp), Nat.div_eq_of_lt hp, Nat.zero_add]
theorem s8a {p0 p1 p2 : Nat} (b0 : p0 ≤ 8) (b1 : p1 ≤ 8) (b2 : p2 ≤ 8) : p0 + p1 + 256 * (p1 + p2) < 65536 := by omega
theorem s8b {p q r s : Nat} (b0 : p ≤ 32) (b1 : q ≤ 32) (b2 : r ≤ 32) (b3 : s ≤ 32) : p + 256 * q + 65536 * (r + 256 * s) < 4294967296 := by omega
theorem s8c {p0 p1 p2 p3 : Nat} (b0 : p0 ≤ 8) (b1 : p1 ≤ 8) (b2 : p2 ≤ 8) (b3 : p3 ≤ 8) : p0 + p1 + p2 + p3 ≤ 32 := by omega
theorem s8d {p0 p1 p2 h1 h2 h3 : Nat} (e1 : h1 = p1 + 256 * h2) (e2 : h2 = p2 + 256 * h3) : p0 + 256 * h1 + h1 = (p0 + p1 + 256 * (p1 + p2)) + 65536 * (h2 + h3) := by omega
theorem s8e {p2 p3 p4 h2 h3 h4 h5 : Nat} (e2 : h2 = p2 + 256 * h3) (e3 : h3 = p3 + 256 * h4) (e4 : h4 = p4 + 256 * h5) : h2 + h3 = (p2 + p3) + 256 * (p3 + p4) + 65536 * (h4 + h5) := by omega
theorem s8f {p0 p1 p2 p3 p4 p5 p6 u v w : Nat} (hu : u = (p2 + p3) + 256 * (p3 + p4) + 65536 * v) (hv : v = (p4 + p5) + 256 * (p5 + p6) + 65536 * w) : (p0 + p1 + 256 * (p1 + p2)) + 65536 * u + u = ((p0 + p1 + p2 + p3) + 256 * (p1 + p2 + p3 + p4) + 65536 * ((p2 + p3 + p4 + p5) + 256 * (p3 + p4 + p5 + p6))) + 4294967296 * (v + w) := by omega
theorem s8g {p0 p1 p2 p3 p4 p5 p6 p7 q r s v w h6 : Nat} (hv : v = (p4 + p5) + 256 * (p5 + p6) + 65536 * w) (hw : w = h6 + p7) (e6 : h6 = p6 + 256 * p7) : ((p0 + p1 + p2 + p3) + 256 * q + 65536 * (r + 256 * s)) + 4294967296 * (v + w) + (v + w) = (p0 + (p1 + (p2 + (p3 + (p4 + (p5 + (p6 + p7))))))) + 128 * (2 * q + 512 * (r + 256 * s) + 33554432 * (v + w) + 2 * (p5 + p6) + 512 * w + 2 * p7) := by omega
theorem s8h {p0 p1 p2 p3 p4 p5 p6 p7 : Nat} (b0 : p0 ≤ 8) (b1 : p1 ≤ 8) (b2 : p2 ≤ 8) (b3 : p3 ≤ 8) (b4 : p4 ≤ 8) (b5 : p5 ≤ 8) (b6 : p6 ≤ 8) (b7 : p7 ≤ 8) : p0 + (p1 + (p2 + (p3 + (p4 + (p5 + (p6 + p7)))))) < 128 := by omega
theorem sum8 {p0 p1 p2 p3 p4 p5 p6 p7 h1 h2 h3 h4 h5 h6 : Nat} (b0 : p0 ≤ 8) (b1 : p1 ≤ 8) (b2 : p2 ≤ 8) (b3 : p3 ≤ 8) (b4 : p4 ≤ 8) (b5 : p5 ≤ 8) (b6 : p6 ≤ 8) (b7 : p7 ≤ 8) (e1 : h1 = p1 + 256 * h2) (e2 : h2 = p2 + 256 * h3) (e3 : h3 = p3 + 256 * h4) (e4 : h4 = p4 + 256 * h5) (e5 : h5 = p5 + 256 * h6) (e6 : h6 = p6 + 256 * p7) {a3 a4 a5 a6 : Nat} (f3 : a3 = p0 + 256 * h1) (f4 : a4 = a3 + a3 / 256) (f5 : a5 = a4 + a4 / 65536) (f6 : a6 = a5 + a5 / 4294967296) : a6 % 128 = p0 + (p1 + (p2 + (p3 + (p4 + (p5 + (p6 + p7)))))) := by
  have d3 : a3 / 256 = h1 := dvq f3 (Nat.lt_of_le_of_lt b0 (by decide))
  have g4 : a4 = (p0 + p1 + 256 * (p1 + p2)) + 65536 * (h2 + h3) := by rw [f4, d3, f3]; exact s8d e1 e2
  have d4 : a4 / 65536 = h2 + h3 := dvq g4 (s8a b0 b1 b2)
  have u := s8e e2 e3 e4
  have v := s8e (p2 := p4) (p3 := p5) (p4 := p6) (h2 := h4) (h3 := h5) (h4 := h6) (h5 := p7) e4 e5 e6
  have g5 := f5
  rw [d4, g4, s8f u v] at g5
  have d5 : a5 / 4294967296 = h4 + h5 + (h6 + p7) := dvq g5 (s8b (s8c b0 b1 b2 b3) (s8c b1 b2 b3 b4) (s8c b2 b3 b4 b5) (s8c b3 b4 b5 b6))
  have g6 := f6
  rw [d5, g5, s8g v rfl e6] at g6
  rw [g6, Nat.add_mul_mod_self_left, Nat.mod_eq_of_lt (s8h b0 b1 b2 b3 b4 b5 b6 b7)]
