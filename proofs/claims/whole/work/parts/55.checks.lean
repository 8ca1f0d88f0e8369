/-! ===== the checks of the arguments ===== -/
section CK
variable {Γ : zSh} {N : Mem} {R : Mem} {J : Nat → Nat → Int64} {p : Nat} {σ : zSt} {x : Int32}
def b01 (P : Prop) [Decidable P] : Nat := if P then 1 else 0
theorem b01_t {P : Prop} [Decidable P] (h : P) : b01 P = 1 := if_pos h
theorem b01_f {P : Prop} [Decidable P] (h : ¬ P) : b01 P = 0 := if_neg h
theorem b01_lt {P : Prop} [Decidable P] : b01 P < 2 := by
  unfold b01
  by_cases e : P
  · rw [if_pos e]; omega
  · rw [if_neg e]; omega
theorem m_in {lo hi : Int64} {l h : Int} (h1 : lo.toInt = l) (h2 : hi.toInt = h) : f_X7_in Γ x.toInt64 lo hi σ = some (nI (b01 (l ≤ x.toInt ∧ x.toInt ≤ h)), σ) := by
  subst h1
  subst h2
  unfold f_X7_in
  have e0 : x.toInt64.toInt = x.toInt := Int32.toInt_toInt64 x
  by_cases e1 : lo.toInt ≤ x.toInt
  · rw [if_neg (fun q => by rw [lg_cmp_lt, Int64.lt_iff_toInt_lt, e0] at q; omega)]
    by_cases e2 : x.toInt ≤ hi.toInt
    · rw [if_neg (fun q => by rw [lg_cmp_gt, Int64.lt_iff_toInt_lt, e0] at q; omega), b01_t ⟨e1, e2⟩]
      rfl
    · rw [if_pos (by rw [lg_cmp_gt, Int64.lt_iff_toInt_lt, e0]; omega), b01_f (fun q => e2 q.2)]
      rfl
  · rw [if_pos (by rw [lg_cmp_lt, Int64.lt_iff_toInt_lt, e0]; omega), b01_f (fun q => e1 q.1)]
    rfl
theorem isB_b {b : Nat} (h : b < 2) : isB (nI b) = true := by
  rcases (by omega : b = 0 ∨ b = 1) with rfl | rfl <;> rfl
theorem m_isSlot : f_X7_isSlot Γ x σ = some (nI (b01 (0 ≤ x.toInt ∧ x.toInt ≤ 3)), σ) := by
  unfold f_X7_isSlot
  rw [m_in (l := 0) (h := 3) (by decide) (by decide), c_bnd, isB_b b01_lt, c_chk]
theorem m_isNumber : f_X7_isNumber Γ x σ = some (nI (b01 (0 ≤ x.toInt ∧ x.toInt ≤ 10006)), σ) := by
  unfold f_X7_isNumber
  rw [m_in (l := 0) (h := 10006) (by decide) (by decide), c_bnd, isB_b b01_lt, c_chk]
/-- which condition is the first that does not hold -/
def thr (b1 b2 b3 : Nat) : Nat := if b1 = 0 then 1 else if b2 = 0 then 2 else if b3 = 0 then 3 else 0
theorem m_goes (h : Γ p = some (7 + 5, 0)) {b1 b2 b3 : Nat} (h1 : b1 < 2) (h2 : b2 < 2) (h3 : b3 < 2) : f_X7_goes Γ p (nI b1) (nI b2) (nI b3) (cS N R J) = some (nI (b01 (thr b1 b2 b3 = 0)), cS (setF N p (up1 (N p) 3 (thr b1 b2 b3))) R J) := by
  have step : ∀ v, v < 4 → f_X7_goes_L26 Γ p (nI v) p (cS N R J) = some (nI (b01 (v = 0)), cS (setF N p (up1 (N p) 3 v)) R J) := by
    intro v hv
    unfold f_X7_goes_L26
    rw [c_pfI h, c_gfI h, setF_at, up1_at, L0]
    by_cases e : v = 0
    · rw [ieq_t e, b01_t e]
      unfold f_X7_goes_L41
      rw [L1, isB_b (by omega), c_chk]
    · rw [ieq_f e (by omega) (by omega), b01_f e]
      unfold f_X7_goes_L41
      rw [isB_b (by omega), c_chk]
  unfold f_X7_goes thr
  rw [L0, L1, L2, L3]
  by_cases e1 : b1 = 0
  · rw [ieq_t e1, if_pos e1]
    exact step 1 (by omega)
  · rw [ieq_f e1 (by omega) (by omega), if_neg e1]
    by_cases e2 : b2 = 0
    · rw [ieq_t e2, if_pos e2]
      exact step 2 (by omega)
    · rw [ieq_f e2 (by omega) (by omega), if_neg e2]
      by_cases e3 : b3 = 0
      · rw [ieq_t e3, if_pos e3]
        exact step 3 (by omega)
      · rw [ieq_f e3 (by omega) (by omega), if_neg e3]
        exact step 0 (by omega)
/-- an int in a range is a small whole number -/
theorem in_nI {n : Nat} (h1 : 0 ≤ x.toInt) (h2 : x.toInt ≤ n) (hn : n < 2147483648) : ∃ k, k ≤ n ∧ x = nI k := by
  refine ⟨x.toInt.toNat, by omega, ?_⟩
  apply Int32.toInt_inj.mp
  rw [nI_toInt (by omega)]
  omega
theorem k_slot : f_X6_checkSlot Γ x σ = if 0 ≤ x.toInt ∧ x.toInt ≤ 3 then some (.inl ((), σ)) else some (.inr (0, σ)) := by
  have a0 : (0 : Int32).toInt = 0 := by decide
  have a4 : (4 : Int32).toInt = 4 := by decide
  unfold f_X6_checkSlot f_X6_checkSlot_L9
  by_cases e1 : 0 ≤ x.toInt
  · rw [if_neg (fun q => by rw [Int32.lt_iff_toInt_lt, a0] at q; omega)]
    by_cases e2 : x.toInt ≤ 3
    · rw [if_pos (by rw [Int32.lt_iff_toInt_lt, a4]; omega), if_pos ⟨e1, e2⟩]
    · rw [if_neg (fun q => by rw [Int32.lt_iff_toInt_lt, a4] at q; omega), if_neg (fun q => e2 q.2)]
  · rw [if_pos (by rw [Int32.lt_iff_toInt_lt, a0]; omega), if_neg (fun q => e1 q.1)]
theorem k_range {lo hi : Int32} {l h : Int} (h1 : lo.toInt = l) (h2 : hi.toInt = h) : f_X6_checkRange Γ x lo hi σ = if l ≤ x.toInt ∧ x.toInt ≤ h then some (.inl ((), σ)) else some (.inr (1, σ)) := by
  subst h1
  subst h2
  unfold f_X6_checkRange f_X6_checkRange_L10
  by_cases e1 : lo.toInt ≤ x.toInt
  · have f1 : ¬ x < lo := fun q => by rw [Int32.lt_iff_toInt_lt] at q; omega
    by_cases e2 : x.toInt ≤ hi.toInt
    · have f2 : x ≤ hi := by rw [Int32.le_iff_toInt_le]; exact e2
      rw [if_neg f1, if_pos f2, if_pos (And.intro e1 e2)]
    · have f2 : ¬ x ≤ hi := fun q => by rw [Int32.le_iff_toInt_le] at q; omega
      rw [if_neg f1, if_neg f2, if_neg (show ¬ (lo.toInt ≤ x.toInt ∧ x.toInt ≤ hi.toInt) from fun q => e2 q.2)]
  · have f1 : x < lo := by rw [Int32.lt_iff_toInt_lt]; omega
    rw [if_pos f1, if_neg (show ¬ (lo.toInt ≤ x.toInt ∧ x.toInt ≤ hi.toInt) from fun q => e1 q.1)]
end CK
