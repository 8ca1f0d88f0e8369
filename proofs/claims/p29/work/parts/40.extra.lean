/-- a step by a letter, or by both -/
def stpB (A : Au) (l : Nat) (v : Nat → Nat) (j : Nat) : Nat := if l = 2 then nsum A.1 (fun i => v i * (A.2.2.2 0 i j + A.2.2.2 1 i j)) % 10007 else stpA A l v j
theorem stpB_lt {A : Au} {l j : Nat} {v : Nat → Nat} : stpB A l v j < 10007 := by
  unfold stpB
  by_cases e : l = 2
  · rw [if_pos e]; exact mlt _
  · rw [if_neg e]; exact mlt _
theorem mul_l {a b : Nat} (h : a ≤ 10007) : (10007 - a) * b + a * b = 10007 * b := by
  rw [← Nat.add_mul, Nat.sub_add_cancel h]
