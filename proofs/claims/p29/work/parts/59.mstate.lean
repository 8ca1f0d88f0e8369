/-! ===== the model: hash of a slot, saving ===== -/
noncomputable def hD (A : Au) (w : Int64) : Nat → Int64
  | 0 => hM A w (2 * (A.1 * A.1))
  | k + 1 => 31 * hD A w k + (nI (dimV A k)).toInt64
section MM
variable {Γ : zSh} {N : Mem} {R : Mem} {J : Nat → Nat → Int64} {p x : Nat} {X : Au}
end MM
