/-! ===== small laws of the field ===== -/
section KR
variable {a b c d e m p q r s t v w x y z : FK}
theorem k_zm : 0 * x = 0 := by grind
theorem k_mz : x * 0 = 0 := by grind
theorem k_az : x + 0 = x := by grind
theorem k_za : 0 + x = x := by grind
theorem k_1m : 1 * x = x := by grind
theorem k_m1 : x * 1 = x := by grind
theorem k_z2 : s = s + 0 * x := by grind
theorem k_mn : a * -b = -(a * b) := by grind
theorem k_a3 : a * (b * c) = a * b * c := by grind
theorem k_a4 : a * b * c = a * c * b := by grind
theorem k_sm : (a - b) * c = a * c - b * c := by grind
theorem k_am : (a + b) * c = a * c + b * c := by grind
theorem k_as : x = x + y - y := by grind
theorem k_rd : r + s = r + -m * e + (s + m * e) := by grind
theorem k_rp : (p + m * q) * b = p * b + m * (q * b) := by grind
theorem k_c1 : -(p * r) * b = -r * (p * b) := by grind
theorem k_c2 : x * r = -r * s + r * (x + s) := by grind
theorem k_h (h : x * r = 1) : t + s = s + x * (t * r) := by
  have : x * (t * r) = t * (x * r) := by grind
  rw [this, h]
  grind
theorem k_n (h : s + a * v = 0) (hy : a * y = 1) : v = -y * s := by
  have e1 : v = a * y * v := by rw [hy]; grind
  have e2 : s = -(a * v) := by grind
  rw [e2]
  grind
theorem k_sub0 (h : a - b = 0) : a = b := by grind
theorem k_neg1 (h : s + -1 * v = 0) : v = s := by grind
theorem k_pos1 (h : v = s) : s + -1 * v = 0 := by rw [h]; grind
theorem k_sub_self : a - a = 0 := by grind
theorem k_comm : a * b = b * a := by grind
theorem k_t1 : (a * b) * (c * d) = a * c * (b * d) := by grind
theorem k_el : a - b * r * 0 = a := by grind
theorem k_el0 (h : x * r = 1) : a - a * r * x = 0 := by
  have : a * r * x = a * (x * r) := by grind
  rw [this, h]
  grind
theorem k_e2 : x * r * z = x * z * r := by grind
theorem k_el2 : m * (a - b * r * d) = m * a - b * r * (m * d) := by grind
theorem k_ge : a + b * -r * d = a - b * r * d := by grind
theorem k_ss : s + t = 0 + s + t := by grind
theorem k_tot1 : 0 + 0 + a = a := by grind
theorem k_m11 : (x - 1) * b = x * b - b := by grind
theorem k_m10 : (x - 0) * b = x * b - 0 := by grind
theorem k_lc : a * (b * c) = b * (a * c) := by grind
theorem k_00 : (0 : FK) - b * r * 0 = 0 := by grind
theorem k_ts : 0 + (0 + t * s) * x = s * (0 + t * x) := by grind
theorem k_ch : 0 + (0 + (0 + x * a + y * c) * a + (0 + x * b + y * d) * c) * p + (0 + (0 + x * a + y * c) * b + (0 + x * b + y * d) * d) * q = (a + d) * (0 + (0 + x * a + y * c) * p + (0 + x * b + y * d) * q) + (b * c - a * d) * (0 + x * p + y * q) := by grind
theorem k_i1 : (x + 0) * b = x * b + 0 := by grind
theorem k_i2 : (0 + y) * b = 0 + y * b := by grind
theorem k_i0 : (0 + 0) * b = 0 + 0 := by grind
theorem left_d : a * (b + c) = a * b + a * c := by grind
theorem left_e : a * (b + c) + (x + y) = a * b + x + (a * c + y) := by grind
theorem add_c : a + b = b + a := by grind
theorem m_inv (h : x * r = 1) : a * x * r = a := by
  have : a * x * r = a * (x * r) := by grind
  rw [this, h]
  grind
theorem add_neg : a + a * -1 = 0 := by grind
end KR
theorem dig_eq {d : Int64} : 31 * d + (nI (4 - 1)).toInt64 = 31 * d + (nI 4).toInt64 - 1 := by
  rw [show (nI (4 - 1)).toInt64 = 3 by decide, show (nI 4).toInt64 = 4 by decide]
  grind
