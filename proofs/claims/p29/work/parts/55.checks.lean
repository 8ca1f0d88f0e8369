/-! ===== the checks of the arguments ===== -/
section CK
variable {Γ : zSh} {N : Mem} {R : Mem} {J : Nat → Nat → Int64} {p : Nat} {σ : zSt} {x : Int32}
def b01 (P : Prop) [Decidable P] : Nat := if P then 1 else 0
theorem b01_t {P : Prop} [Decidable P] (h : P) : b01 P = 1 := if_pos h
theorem b01_f {P : Prop} [Decidable P] (h : ¬ P) : b01 P = 0 := if_neg h
theorem b01_lt {P : Prop} [Decidable P] : b01 P < 2 := by
  unfold b01
  by_cases e : P
  · rw [if_pos e]; omega
  · rw [if_neg e]; omega
theorem isB_b {b : Nat} (h : b < 2) : isB (nI b) = true := by
  rcases (by omega : b = 0 ∨ b = 1) with rfl | rfl <;> rfl
/-- which condition is the first that does not hold -/
def thr (b1 b2 b3 : Nat) : Nat := if b1 = 0 then 1 else if b2 = 0 then 2 else if b3 = 0 then 3 else 0
/-- an int in a range is a small whole number -/
theorem in_nI {n : Nat} (h1 : 0 ≤ x.toInt) (h2 : x.toInt ≤ n) (hn : n < 2147483648) : ∃ k, k ≤ n ∧ x = nI k := by
  refine ⟨x.toInt.toNat, by omega, ?_⟩
  apply Int32.toInt_inj.mp
  rw [nI_toInt (by omega)]
  omega
theorem k_slot : f_X6_checkSlot Γ x σ = if 0 ≤ x.toInt ∧ x.toInt ≤ 3 then some (.inl ((), σ)) else some (.inr (0, σ)) := by
  have a0 : (0 : Int32).toInt = 0 := by decide
  have a4 : (4 : Int32).toInt = 4 := by decide
  unfold f_X6_checkSlot f_X6_checkSlot_L9
  by_cases e1 : 0 ≤ x.toInt
  · rw [if_neg (fun q => by rw [Int32.lt_iff_toInt_lt, a0] at q; omega)]
    by_cases e2 : x.toInt ≤ 3
    · rw [if_pos (by rw [Int32.lt_iff_toInt_lt, a4]; omega), if_pos ⟨e1, e2⟩]
    · rw [if_neg (fun q => by rw [Int32.lt_iff_toInt_lt, a4] at q; omega), if_neg (fun q => e2 q.2)]
  · rw [if_pos (by rw [Int32.lt_iff_toInt_lt, a0]; omega), if_neg (fun q => e1 q.1)]
theorem k_range {lo hi : Int32} {l h : Int} (h1 : lo.toInt = l) (h2 : hi.toInt = h) : f_X6_checkRange Γ x lo hi σ = if l ≤ x.toInt ∧ x.toInt ≤ h then some (.inl ((), σ)) else some (.inr (1, σ)) := by
  subst h1
  subst h2
  unfold f_X6_checkRange f_X6_checkRange_L10
  by_cases e1 : lo.toInt ≤ x.toInt
  · have f1 : ¬ x < lo := fun q => by rw [Int32.lt_iff_toInt_lt] at q; omega
    by_cases e2 : x.toInt ≤ hi.toInt
    · have f2 : x ≤ hi := by rw [Int32.le_iff_toInt_le]; exact e2
      rw [if_neg f1, if_pos f2, if_pos (And.intro e1 e2)]
    · have f2 : ¬ x ≤ hi := fun q => by rw [Int32.le_iff_toInt_le] at q; omega
      rw [if_neg f1, if_neg f2, if_neg (show ¬ (lo.toInt ≤ x.toInt ∧ x.toInt ≤ hi.toInt) from fun q => e2 q.2)]
  · have f1 : x < lo := by rw [Int32.lt_iff_toInt_lt]; omega
    rw [if_pos f1, if_neg (show ¬ (lo.toInt ≤ x.toInt ∧ x.toInt ≤ hi.toInt) from fun q => e1 q.1)]
end CK
