theorem rk_stop {h : Nat} {G : Nat → Nat → Nat} {c : Nat} (e : h ≤ (rkS h G c).1) : ∀ m, rkS h G (c + m) = rkS h G c := by
  intro m
  induction m with
  | zero => rfl
  | succ m ih =>
    rw [show c + (m + 1) = (c + m) + 1 from rfl, rkS, ih, if_pos (Or.inr e)]
