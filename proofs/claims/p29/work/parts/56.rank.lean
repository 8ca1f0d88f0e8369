/-! ===== the rank of a grid, abstractly ===== -/
/-- rows that are swapped -/
def gsw (G : Nat → Nat → Nat) (f i k : Nat) : Nat → Nat := if k = f then G i else if k = i then G f else G k
/-- the first row from f on that is not 0 in a column; h: none -/
def gfi (G : Nat → Nat → Nat) (h f c : Nat) : Nat := f + fnz (fun d => G (f + d) c) (h - f)
/-- the rows below a pivot -/
def gel (G : Nat → Nat → Nat) (f i c : Nat) (k j : Nat) : Nat := if f < k then (gsw G f i k j + gsw G f i k c * (10007 - rcp (G i c)) % 10007 * G i j) % 10007 else G k j
/-- how many rows are found, and the grid, after c columns -/
def rkS (h : Nat) (G : Nat → Nat → Nat) : Nat → Nat × (Nat → Nat → Nat)
  | 0 => (0, G)
  | c + 1 => if gfi (rkS h G c).2 h (rkS h G c).1 c = h ∨ h ≤ (rkS h G c).1 then rkS h G c else ((rkS h G c).1 + 1, gel (rkS h G c).2 (rkS h G c).1 (gfi (rkS h G c).2 h (rkS h G c).1 c) c)
theorem gfi_le {G : Nat → Nat → Nat} {h f c : Nat} (hf : f ≤ h) : f ≤ gfi G h f c ∧ gfi G h f c ≤ h := by
  have := fnz_le (f := fun d => G (f + d) c) (h - f)
  unfold gfi
  omega
theorem gfi_spec {G : Nat → Nat → Nat} {h f c : Nat} (hf : f ≤ h) : (∀ k, f ≤ k → k < gfi G h f c → G k c = 0) ∧ (gfi G h f c < h → G (gfi G h f c) c ≠ 0) := by
  obtain ⟨a, b⟩ := fnz_spec (f := fun d => G (f + d) c) (h - f)
  have := fnz_le (f := fun d => G (f + d) c) (h - f)
  unfold gfi
  refine ⟨fun k h1 h2 => ?_, fun h1 => b (by omega)⟩
  have := a (k - f) (by omega)
  rw [show f + (k - f) = k by omega] at this
  exact this
theorem rk_le {h : Nat} {G : Nat → Nat → Nat} : ∀ c, (rkS h G c).1 ≤ h ∧ (rkS h G c).1 ≤ c := by
  intro c
  induction c with
  | zero => exact ⟨Nat.zero_le _, Nat.le_refl _⟩
  | succ c ih =>
    unfold rkS
    by_cases e : gfi (rkS h G c).2 h (rkS h G c).1 c = h ∨ h ≤ (rkS h G c).1
    · rw [if_pos e]; omega
    · rw [if_neg e]
      show (rkS h G c).1 + 1 ≤ h ∧ (rkS h G c).1 + 1 ≤ c + 1
      omega
theorem rk_lt {h w : Nat} {G : Nat → Nat → Nat} (hG : ∀ k j, k < h → j < w → G k j < 10007) : ∀ c k j, k < h → j < w → (rkS h G c).2 k j < 10007 := by
  intro c
  induction c with
  | zero => exact fun k j a b => hG k j a b
  | succ c ih =>
    intro k j hk hj
    unfold rkS
    by_cases e : gfi (rkS h G c).2 h (rkS h G c).1 c = h ∨ h ≤ (rkS h G c).1
    · rw [if_pos e]; exact ih k j hk hj
    · rw [if_neg e]
      show gel _ _ _ _ k j < 10007
      unfold gel
      by_cases e2 : (rkS h G c).1 < k
      · rw [if_pos e2]; exact mlt _
      · rw [if_neg e2]; exact ih k j hk hj
/-- the model's way of taking a multiple away is the class's -/
theorem el_eq {r a s t : Nat} (ha : a ≤ 10007) (hs : s ≤ 10007) : (r + (10007 - a) * (t * s % 10007)) % 10007 = (r + a * (10007 - s) % 10007 * t) % 10007 := by
  have e1 : (r + (10007 - a) * (t * s % 10007)) % 10007 = (r + (10007 - a) * (t * s)) % 10007 := by
    rw [Nat.add_mod, Nat.mul_mod, Nat.mod_mod, ← Nat.mul_mod, ← Nat.add_mod]
  have e2 : (r + a * (10007 - s) % 10007 * t) % 10007 = (r + a * (10007 - s) * t) % 10007 := by
    rw [Nat.add_mod, Nat.mul_mod, Nat.mod_mod, ← Nat.mul_mod, ← Nat.add_mod]
  have h1 : (10007 - a) * (t * s) + a * (t * s) = 10007 * (t * s) := mul_l ha
  have h2 : a * (10007 - s) * t + a * (t * s) = 10007 * (a * t) := by
    rw [Nat.mul_assoc, Nat.mul_comm t s, ← Nat.mul_add]
    rw [mul_l hs, Nat.mul_left_comm]
  rw [e1, e2]
  generalize (10007 - a) * (t * s) = x at *
  generalize a * (t * s) = y at *
  generalize a * (10007 - s) * t = z at *
  omega
theorem el_0 {r s t : Nat} (hr : r < 10007) : (r + 0 * (10007 - s) % 10007 * t) % 10007 = r := by
  rw [Nat.zero_mul, Nat.zero_mod, Nat.zero_mul, Nat.add_zero, Nat.mod_eq_of_lt hr]
