/-! ===== the model: minimizes, dimensionOf, combines, derives ===== -/
/-- the pool keeps all cells outside two ranges -/
def kp (N N' : Mem) (p lo hi lo2 hi2 : Nat) : Prop := ∀ z, z < lo ∨ hi ≤ z → z < lo2 ∨ hi2 ≤ z → N' (p + 1) z = N (p + 1) z
noncomputable def dimV (X : Au) (kind : Nat) : Nat := if kind = 0 then (expl X).1 else if kind = 1 then (expl (revA X)).1 else (minA X).1
def comA (X Y : Au) (kind : Nat) : Au := if kind = 0 then sumA X Y else if kind = 1 then hadA X Y else cauA X Y
theorem comA_ok {X Y : Au} {kind : Nat} (hX : okA X) (hY : okA Y) : okA (comA X Y kind) := by
  unfold comA
  by_cases e : kind = 0
  · rw [if_pos e]; exact sumA_ok hX hY
  · rw [if_neg e]
    by_cases e2 : kind = 1
    · rw [if_pos e2]; exact hadA_ok
    · rw [if_neg e2]; exact cauA_ok hX hY
theorem comA_n {X Y : Au} {kind : Nat} : (comA X Y kind).1 = if kind = 1 then X.1 * Y.1 else X.1 + Y.1 := by
  unfold comA
  by_cases e : kind = 0
  · rw [if_pos e, if_neg (by omega)]; rfl
  · rw [if_neg e]
    by_cases e2 : kind = 1
    · rw [if_pos e2, if_pos e2]; rfl
    · rw [if_neg e2, if_neg e2]; rfl
section MG
variable {Γ : zSh} {N : Mem} {R : Mem} {J : Nat → Nat → Int64} {p q x y l : Nat} {X Y A : Au}
end MG
