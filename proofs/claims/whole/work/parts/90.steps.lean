/-! ===== the law's step, case by case ===== -/
section STP
variable {Γ : zSh} {N R : Mem} {J : Nat → Nat → Int64} {o i : Nat} {S : tS} {x y z v w : Int32} {xs : Nat → Int32} {L b : Nat}
theorem rk_begin : (rBegin S x y).1 ≤ 2 := by
  unfold rBegin
  (repeat' split) <;> (dsimp only; omega)
theorem kl_begin (hL : yLI Γ N R o S) : yKL Γ N R o (f_L_begin Γ o x y (o + 390) (cS N R J)) (rBegin S x y) := by
  unfold f_L_begin
  refine kl_of hL (c_begin hL.1 hL.2.2.1) (fun σ _ => rfl) (fun σ hne => ?_)
  have hr := rk_begin (S := S) (x := x) (y := y)
  generalize rBegin S x y = res at *
  rcases (by omega : res.1 = 1 ∨ res.1 = 2) with e | e <;> rw [e] <;> rfl
theorem rk_setStep : (rSetStep S x y z v w).1 ≤ 2 := by
  unfold rSetStep
  (repeat' split) <;> (dsimp only; omega)
theorem kl_setStep (hL : yLI Γ N R o S) : yKL Γ N R o (f_L_setStep Γ o x y z v w (o + 390) (cS N R J)) (rSetStep S x y z v w) := by
  unfold f_L_setStep
  refine kl_of hL (c_setStep hL.1 hL.2.2.1) (fun σ _ => rfl) (fun σ hne => ?_)
  have hr := rk_setStep (S := S) (x := x) (y := y) (z := z) (v := v) (w := w)
  generalize rSetStep S x y z v w = res at *
  rcases (by omega : res.1 = 1 ∨ res.1 = 2) with e | e <;> rw [e] <;> rfl
theorem rk_random : (rRandom S x y z).1 ≤ 2 := by
  unfold rRandom
  (repeat' split) <;> (dsimp only; omega)
theorem kl_random (hL : yLI Γ N R o S) : yKL Γ N R o (f_L_random Γ o x y z (o + 390) (cS N R J)) (rRandom S x y z) := by
  unfold f_L_random
  refine kl_of hL (c_random hL.1 hL.2.2.1) (fun σ _ => rfl) (fun σ hne => ?_)
  have hr := rk_random (S := S) (x := x) (y := y) (z := z)
  generalize rRandom S x y z = res at *
  rcases (by omega : res.1 = 1 ∨ res.1 = 2) with e | e <;> rw [e] <;> rfl
theorem rk_states : (rStates S x).1 ≤ 1 := by
  unfold rStates
  (repeat' split) <;> (dsimp only; omega)
theorem kl_states (hL : yLI Γ N R o S) : yKL Γ N R o (f_L_states Γ o x (o + 390) (cS N R J)) (rStates S x) := by
  unfold f_L_states
  refine kl_of hL (c_states hL.1 hL.2.2.1) (fun σ _ => rfl) (fun σ hne => ?_)
  have hr := rk_states (S := S) (x := x)
  generalize rStates S x = res at *
  have e : res.1 = 1 := by omega
  rw [e]
  rfl
theorem rk_step : (rStep S x y z v).1 ≤ 1 := by
  unfold rStep
  (repeat' split) <;> (dsimp only; omega)
theorem kl_step (hL : yLI Γ N R o S) : yKL Γ N R o (f_L_step Γ o x y z v (o + 390) (cS N R J)) (rStep S x y z v) := by
  unfold f_L_step
  refine kl_of hL (c_step hL.1 hL.2.2.1) (fun σ _ => rfl) (fun σ hne => ?_)
  have hr := rk_step (S := S) (x := x) (y := y) (z := z) (v := v)
  generalize rStep S x y z v = res at *
  have e : res.1 = 1 := by omega
  rw [e]
  rfl
theorem rk_weight : (rWeight S x y).1 ≤ 2 := by
  unfold rWeight
  (repeat' split) <;> (dsimp only; omega)
theorem kl_weight (hL : yLI Γ N R o S) : yKL Γ N R o (f_L_weight Γ o x y (o + 390) (cS N R J)) (rWeight S x y) := by
  unfold f_L_weight
  refine kl_of hL (c_weight hL.1 hL.2.2.1) (fun σ _ => rfl) (fun σ hne => ?_)
  have hr := rk_weight (S := S) (x := x) (y := y)
  generalize rWeight S x y = res at *
  rcases (by omega : res.1 = 1 ∨ res.1 = 2) with e | e <;> rw [e] <;> rfl
theorem rk_powerWeight : (rPower S x y z).1 ≤ 2 := by
  unfold rPower
  (repeat' split) <;> (dsimp only; omega)
theorem kl_powerWeight (hL : yLI Γ N R o S) : yKL Γ N R o (f_L_powerWeight Γ o x y z (o + 390) (cS N R J)) (rPower S x y z) := by
  unfold f_L_powerWeight
  refine kl_of hL (c_power hL.1 hL.2.2.1) (fun σ _ => rfl) (fun σ hne => ?_)
  have hr := rk_powerWeight (S := S) (x := x) (y := y) (z := z)
  generalize rPower S x y z = res at *
  rcases (by omega : res.1 = 1 ∨ res.1 = 2) with e | e <;> rw [e] <;> rfl
theorem rk_total : (rTotal S x y).1 ≤ 2 := by
  unfold rTotal
  (repeat' split) <;> (dsimp only; omega)
theorem kl_total (hL : yLI Γ N R o S) : yKL Γ N R o (f_L_total Γ o x y (o + 390) (cS N R J)) (rTotal S x y) := by
  unfold f_L_total
  refine kl_of hL (c_total hL.1 hL.2.2.1) (fun σ _ => rfl) (fun σ hne => ?_)
  have hr := rk_total (S := S) (x := x) (y := y)
  generalize rTotal S x y = res at *
  rcases (by omega : res.1 = 1 ∨ res.1 = 2) with e | e <;> rw [e] <;> rfl
theorem rk_support : (rSupport S x y).1 ≤ 2 := by
  unfold rSupport
  (repeat' split) <;> (dsimp only; omega)
theorem kl_support (hL : yLI Γ N R o S) : yKL Γ N R o (f_L_support Γ o x y (o + 390) (cS N R J)) (rSupport S x y) := by
  unfold f_L_support
  refine kl_of hL (c_support hL.1 hL.2.2.1) (fun σ _ => rfl) (fun σ hne => ?_)
  have hr := rk_support (S := S) (x := x) (y := y)
  generalize rSupport S x y = res at *
  rcases (by omega : res.1 = 1 ∨ res.1 = 2) with e | e <;> rw [e] <;> rfl
theorem rk_first : (rFirst S x).1 ≤ 1 := by
  unfold rFirst
  (repeat' split) <;> (dsimp only; omega)
theorem kl_first (hL : yLI Γ N R o S) : yKL Γ N R o (f_L_first Γ o x (o + 390) (cS N R J)) (rFirst S x) := by
  unfold f_L_first
  refine kl_of hL (c_first hL.1 hL.2.2.1) (fun σ _ => rfl) (fun σ hne => ?_)
  have hr := rk_first (S := S) (x := x)
  generalize rFirst S x = res at *
  have e : res.1 = 1 := by omega
  rw [e]
  rfl
theorem rk_combine : (rCombine S x y z v).1 ≤ 3 := by
  unfold rCombine
  (repeat' split) <;> (dsimp only; omega)
theorem kl_combine (hL : yLI Γ N R o S) : yKL Γ N R o (f_L_combine Γ o x y z v (o + 390) (cS N R J)) (rCombine S x y z v) := by
  unfold f_L_combine
  refine kl_of hL (c_combine hL.1 hL.2.2.1) (fun σ _ => rfl) (fun σ hne => ?_)
  have hr := rk_combine (S := S) (x := x) (y := y) (z := z) (v := v)
  generalize rCombine S x y z v = res at *
  rcases (by omega : res.1 = 1 ∨ res.1 = 2 ∨ res.1 = 3) with e | e | e <;> rw [e] <;> rfl
theorem rk_derive : (rDerive S x y z).1 ≤ 3 := by
  unfold rDerive
  (repeat' split) <;> (dsimp only; omega)
theorem kl_derive (hL : yLI Γ N R o S) : yKL Γ N R o (f_L_derive Γ o x y z (o + 390) (cS N R J)) (rDerive S x y z) := by
  unfold f_L_derive
  refine kl_of hL (c_derive hL.1 hL.2.2.1) (fun σ _ => rfl) (fun σ hne => ?_)
  have hr := rk_derive (S := S) (x := x) (y := y) (z := z)
  generalize rDerive S x y z = res at *
  rcases (by omega : res.1 = 1 ∨ res.1 = 2 ∨ res.1 = 3) with e | e | e <;> rw [e] <;> rfl
theorem rk_scale : (rScale S x y).1 ≤ 2 := by
  unfold rScale
  (repeat' split) <;> (dsimp only; omega)
theorem kl_scale (hL : yLI Γ N R o S) : yKL Γ N R o (f_L_scale Γ o x y (o + 390) (cS N R J)) (rScale S x y) := by
  unfold f_L_scale
  refine kl_of hL (c_scale hL.1 hL.2.2.1) (fun σ _ => rfl) (fun σ hne => ?_)
  have hr := rk_scale (S := S) (x := x) (y := y)
  generalize rScale S x y = res at *
  rcases (by omega : res.1 = 1 ∨ res.1 = 2) with e | e <;> rw [e] <;> rfl
theorem rk_dimension : (rDim S x y).1 ≤ 2 := by
  unfold rDim
  (repeat' split) <;> (dsimp only; omega)
theorem kl_dimension (hL : yLI Γ N R o S) : yKL Γ N R o (f_L_dimension Γ o x y (o + 390) (cS N R J)) (rDim S x y) := by
  unfold f_L_dimension
  refine kl_of hL (c_dim hL.1 hL.2.2.1) (fun σ _ => rfl) (fun σ hne => ?_)
  have hr := rk_dimension (S := S) (x := x) (y := y)
  generalize rDim S x y = res at *
  rcases (by omega : res.1 = 1 ∨ res.1 = 2) with e | e <;> rw [e] <;> rfl
theorem rk_basisWord : (rBasis S x y).1 ≤ 1 := by
  unfold rBasis
  (repeat' split) <;> (dsimp only; omega)
theorem kl_basisWord (hL : yLI Γ N R o S) : yKL Γ N R o (f_L_basisWord Γ o x y (o + 390) (cS N R J)) (rBasis S x y) := by
  unfold f_L_basisWord
  refine kl_of hL (c_basisW hL.1 hL.2.2.1) (fun σ _ => rfl) (fun σ hne => ?_)
  have hr := rk_basisWord (S := S) (x := x) (y := y)
  generalize rBasis S x y = res at *
  have e : res.1 = 1 := by omega
  rw [e]
  rfl
theorem rk_differing : (rDiff S x y).1 ≤ 1 := by
  unfold rDiff
  (repeat' split) <;> (dsimp only; omega)
theorem kl_differing (hL : yLI Γ N R o S) : yKL Γ N R o (f_L_differing Γ o x y (o + 390) (cS N R J)) (rDiff S x y) := by
  unfold f_L_differing
  refine kl_of hL (c_diff hL.1 hL.2.2.1) (fun σ _ => rfl) (fun σ hne => ?_)
  have hr := rk_differing (S := S) (x := x) (y := y)
  generalize rDiff S x y = res at *
  have e : res.1 = 1 := by omega
  rw [e]
  rfl
theorem rk_hankelRank : (rHankel S x y).1 ≤ 2 := by
  unfold rHankel
  (repeat' split) <;> (dsimp only; omega)
theorem kl_hankelRank (hL : yLI Γ N R o S) : yKL Γ N R o (f_L_hankelRank Γ o x y (o + 390) (cS N R J)) (rHankel S x y) := by
  unfold f_L_hankelRank
  refine kl_of hL (c_hankel hL.1 hL.2.2.1) (fun σ _ => rfl) (fun σ hne => ?_)
  have hr := rk_hankelRank (S := S) (x := x) (y := y)
  generalize rHankel S x y = res at *
  rcases (by omega : res.1 = 1 ∨ res.1 = 2) with e | e <;> rw [e] <;> rfl
theorem rk_recurs : (rRecurs S x y).1 ≤ 2 := by
  unfold rRecurs
  (repeat' split) <;> (dsimp only; omega)
theorem r01_recurs : (rRecurs S x y).2.1 = 0 ∨ (rRecurs S x y).2.1 = 1 := by
  unfold rRecurs
  (repeat' split) <;> first | exact Or.inl rfl | exact Or.inr rfl
theorem kl_recurs (hL : yLI Γ N R o S) : yKL Γ N R o (f_L_recurs Γ o x y (o + 390) (cS N R J)) (rRecurs S x y) := by
  unfold f_L_recurs
  refine kl_of hL (c_recurs hL.1 hL.2.2.1) (fun σ _ => by
    unfold f_L_recurs_L16
    rcases r01_recurs (S := S) (x := x) (y := y) with u | u
    · rw [u, if_pos rfl]
      rfl
    · rw [u, if_neg (by decide)]
      rfl) (fun σ hne => ?_)
  have hr := rk_recurs (S := S) (x := x) (y := y)
  generalize rRecurs S x y = res at *
  rcases (by omega : res.1 = 1 ∨ res.1 = 2) with e | e <;> rw [e] <;> rfl
theorem rk_inverse : (rInverse S x).1 ≤ 1 := by
  unfold rInverse
  (repeat' split) <;> (dsimp only; omega)
theorem kl_inverse (hL : yLI Γ N R o S) : yKL Γ N R o (f_L_inverse Γ o x (o + 390) (cS N R J)) (rInverse S x) := by
  unfold f_L_inverse
  refine kl_of hL (c_inverse hL.1 hL.2.2.1) (fun σ _ => rfl) (fun σ hne => ?_)
  have hr := rk_inverse (S := S) (x := x)
  generalize rInverse S x = res at *
  have e : res.1 = 1 := by omega
  rw [e]
  rfl
theorem rk_append : (rAppend S x).1 ≤ 2 := by
  unfold rAppend
  (repeat' split) <;> (dsimp only; omega)
theorem kl_append (hL : yLI Γ N R o S) : yKL Γ N R o (f_L_append Γ o x (o + 390) (cS N R J)) (rAppend S x) := by
  unfold f_L_append
  refine kl_of hL (c_append hL.1 hL.2.2.1) (fun σ _ => rfl) (fun σ hne => ?_)
  have hr := rk_append (S := S) (x := x)
  generalize rAppend S x = res at *
  rcases (by omega : res.1 = 1 ∨ res.1 = 2) with e | e <;> rw [e] <;> rfl
theorem rk_parse : (rParse S x).1 ≤ 1 := by
  unfold rParse
  (repeat' split) <;> (dsimp only; omega)
theorem kl_parse (hL : yLI Γ N R o S) : yKL Γ N R o (f_L_parse Γ o x (o + 390) (cS N R J)) (rParse S x) := by
  unfold f_L_parse
  refine kl_of hL (c_parse hL.1 hL.2.2.1) (fun σ _ => rfl) (fun σ hne => ?_)
  have hr := rk_parse (S := S) (x := x)
  generalize rParse S x = res at *
  have e : res.1 = 1 := by omega
  rw [e]
  rfl
theorem rk_undo : (rUndo S).1 ≤ 1 := by
  unfold rUndo
  (repeat' split) <;> (dsimp only; omega)
theorem kl_undo (hL : yLI Γ N R o S) : yKL Γ N R o (f_L_undo Γ o (o + 390) (cS N R J)) (rUndo S) := by
  unfold f_L_undo
  refine kl_of hL (c_undo hL.1 hL.2.2.1) (fun σ _ => rfl) (fun σ hne => ?_)
  have hr := rk_undo (S := S)
  generalize rUndo S = res at *
  have e : res.1 = 1 := by omega
  rw [e]
  rfl
theorem rk_setEnd : (rSetEnd S x y z v).1 ≤ 2 := by
  unfold rSetEnd
  (repeat' split) <;> (dsimp only; omega)
theorem kl_setEnd (hL : yLI Γ N R o S) : yKL Γ N R o (f_L_setEnd Γ o x y z v (o + 390) (cS N R J)) (rSetEnd S x y z v) := by
  unfold f_L_setEnd
  refine kl_of hL (c_setEnd hL.1 hL.2.2.1) (fun σ _ => rfl) (fun σ hne => ?_)
  have hr := rk_setEnd (S := S) (x := x) (y := y) (z := z) (v := v)
  generalize rSetEnd S x y z v = res at *
  rcases (by omega : res.1 = 1 ∨ res.1 = 2) with e | e <;> rw [e] <;> rfl
theorem rk_end : (rEnd S x y z).1 ≤ 1 := by
  unfold rEnd
  (repeat' split) <;> (dsimp only; omega)
theorem kl_end (hL : yLI Γ N R o S) : yKL Γ N R o (f_L_end Γ o x y z (o + 390) (cS N R J)) (rEnd S x y z) := by
  unfold f_L_end
  refine kl_of hL (c_end hL.1 hL.2.2.1) (fun σ _ => rfl) (fun σ hne => ?_)
  have hr := rk_end (S := S) (x := x) (y := y) (z := z)
  generalize rEnd S x y z = res at *
  have e : res.1 = 1 := by omega
  rw [e]
  rfl
theorem c_scL {β : Type} {f : Int32 → Option β} : scL b L b f = f (nI L) := if_pos rfl
theorem law_step (hL : yLI Γ N R o S) (hi : i + 6 ≤ L) (hL2 : L ≤ 3072) : yLP Γ o i (f_L_law_B23 xs L b Γ b o (o + 373) (o + 390) (nI i) (cS N R J)) := by
  have hI := hL.2.2.1
  unfold f_L_law_B23
  rw [c_scL, L6, pk_sub (by omega), ilt_f (by omega) (by omega), c_scI (by omega) (by omega)]
  generalize xs i &&& 31 = w
  by_cases h0 : w = 0
  · rw [if_pos h0]
    simp (disch := omega) only [L1, L2, L3, L4, L5, nI_add, c_scI]
    exact law_case hL (kl_begin hL) (by have := rk_begin (S := S) (x := xs (i + 1)) (y := xs (i + 2)); omega) (fun N' R' J' hm => m_begin hm hI) (fun σ => by unfold f_L_law_B23_L225 f_L_law_B23_L1930; rw [L6, nI_add])
  rw [if_neg h0]
  by_cases h1 : w = 1
  · rw [if_pos h1]
    unfold f_L_law_B23_L255 f_L_law_B23_L294
    simp (disch := omega) only [L1, L2, L3, L4, L5, nI_add, c_scI]
    by_cases hz : xs (i + 3) = 0
    · simp only [hz, if_true]
      exact law_case hL (kl_setEnd hL) (by have := rk_setEnd (S := S) (x := xs (i + 1)) (y := xs (i + 2)) (z := 0) (v := xs (i + 4)); omega) (fun N' R' J' hm => m_setEnd hm hI) (fun σ => by unfold f_L_law_B23_L333 f_L_law_B23_L1930; rw [L6, nI_add])
    · simp only [hz, if_false]
      exact law_case hL (kl_setEnd hL) (by have := rk_setEnd (S := S) (x := xs (i + 1)) (y := xs (i + 2)) (z := nI 1) (v := xs (i + 4)); omega) (fun N' R' J' hm => m_setEnd hm hI) (fun σ => by unfold f_L_law_B23_L333 f_L_law_B23_L1930; rw [L6, nI_add])
  rw [if_neg h1]
  by_cases h2 : w = 2
  · rw [if_pos h2]
    simp (disch := omega) only [L1, L2, L3, L4, L5, nI_add, c_scI]
    exact law_case hL (kl_setStep hL) (by have := rk_setStep (S := S) (x := xs (i + 1)) (y := xs (i + 2)) (z := xs (i + 3)) (v := xs (i + 4)) (w := xs (i + 5)); omega) (fun N' R' J' hm => m_setStep hm hI) (fun σ => by unfold f_L_law_B23_L437 f_L_law_B23_L1930; rw [L6, nI_add])
  rw [if_neg h2]
  by_cases h3 : w = 3
  · rw [if_pos h3]
    simp (disch := omega) only [L1, L2, L3, L4, L5, nI_add, c_scI]
    exact law_case hL (kl_random hL) (by have := rk_random (S := S) (x := xs (i + 1)) (y := xs (i + 2)) (z := xs (i + 3)); omega) (fun N' R' J' hm => m_random hm hI) (fun σ => by unfold f_L_law_B23_L517 f_L_law_B23_L1930; rw [L6, nI_add])
  rw [if_neg h3]
  by_cases h4 : w = 4
  · rw [if_pos h4]
    simp (disch := omega) only [L1, L2, L3, L4, L5, nI_add, c_scI]
    exact law_case hL (kl_states hL) (by have := rk_states (S := S) (x := xs (i + 1)); omega) (fun N' R' J' hm => m_states hm hI) (fun σ => by unfold f_L_law_B23_L573 f_L_law_B23_L1930; rw [L6, nI_add])
  rw [if_neg h4]
  by_cases h5 : w = 5
  · rw [if_pos h5]
    unfold f_L_law_B23_L603 f_L_law_B23_L636
    simp (disch := omega) only [L1, L2, L3, L4, L5, nI_add, c_scI]
    by_cases hz : xs (i + 3) = 0
    · simp only [hz, if_true]
      exact law_case hL (kl_end hL) (by have := rk_end (S := S) (x := xs (i + 1)) (y := xs (i + 2)) (z := 0); omega) (fun N' R' J' hm => m_end hm hI) (fun σ => by unfold f_L_law_B23_L669 f_L_law_B23_L1930; rw [L6, nI_add])
    · simp only [hz, if_false]
      exact law_case hL (kl_end hL) (by have := rk_end (S := S) (x := xs (i + 1)) (y := xs (i + 2)) (z := nI 1); omega) (fun N' R' J' hm => m_end hm hI) (fun σ => by unfold f_L_law_B23_L669 f_L_law_B23_L1930; rw [L6, nI_add])
  rw [if_neg h5]
  by_cases h6 : w = nI 6
  · rw [if_pos h6]
    simp (disch := omega) only [L1, L2, L3, L4, L5, nI_add, c_scI]
    exact law_case hL (kl_step hL) (by have := rk_step (S := S) (x := xs (i + 1)) (y := xs (i + 2)) (z := xs (i + 3)) (v := xs (i + 4)); omega) (fun N' R' J' hm => m_stepC hm hI) (fun σ => by unfold f_L_law_B23_L761 f_L_law_B23_L1930; rw [L6, nI_add])
  rw [if_neg h6]
  by_cases h7 : w = 7
  · rw [if_pos h7]
    simp (disch := omega) only [L1, L2, L3, L4, L5, nI_add, c_scI]
    exact law_case hL (kl_weight hL) (by have := rk_weight (S := S) (x := xs (i + 1)) (y := xs (i + 2)); omega) (fun N' R' J' hm => m_weight hm hI) (fun σ => by unfold f_L_law_B23_L829 f_L_law_B23_L1930; rw [L6, nI_add])
  rw [if_neg h7]
  by_cases h8 : w = 8
  · rw [if_pos h8]
    simp (disch := omega) only [L1, L2, L3, L4, L5, nI_add, c_scI]
    exact law_case hL (kl_powerWeight hL) (by have := rk_powerWeight (S := S) (x := xs (i + 1)) (y := xs (i + 2)) (z := xs (i + 3)); omega) (fun N' R' J' hm => m_power hm hI) (fun σ => by unfold f_L_law_B23_L909 f_L_law_B23_L1930; rw [L6, nI_add])
  rw [if_neg h8]
  by_cases h9 : w = 9
  · rw [if_pos h9]
    simp (disch := omega) only [L1, L2, L3, L4, L5, nI_add, c_scI]
    exact law_case hL (kl_total hL) (by have := rk_total (S := S) (x := xs (i + 1)) (y := xs (i + 2)); omega) (fun N' R' J' hm => m_total hm hI) (fun σ => by unfold f_L_law_B23_L977 f_L_law_B23_L1930; rw [L6, nI_add])
  rw [if_neg h9]
  by_cases h10 : w = 10
  · rw [if_pos h10]
    simp (disch := omega) only [L1, L2, L3, L4, L5, nI_add, c_scI]
    exact law_case hL (kl_support hL) (by have := rk_support (S := S) (x := xs (i + 1)) (y := xs (i + 2)); omega) (fun N' R' J' hm => m_support hm hI) (fun σ => by unfold f_L_law_B23_L1045 f_L_law_B23_L1930; rw [L6, nI_add])
  rw [if_neg h10]
  by_cases h11 : w = 11
  · rw [if_pos h11]
    simp (disch := omega) only [L1, L2, L3, L4, L5, nI_add, c_scI]
    exact law_case hL (kl_first hL) (by have := rk_first (S := S) (x := xs (i + 1)); omega) (fun N' R' J' hm => m_first hm hI) (fun σ => by unfold f_L_law_B23_L1101 f_L_law_B23_L1930; rw [L6, nI_add])
  rw [if_neg h11]
  by_cases h12 : w = 12
  · rw [if_pos h12]
    simp (disch := omega) only [L1, L2, L3, L4, L5, nI_add, c_scI]
    exact law_case hL (kl_combine hL) (by have := rk_combine (S := S) (x := xs (i + 1)) (y := xs (i + 2)) (z := xs (i + 3)) (v := xs (i + 4)); omega) (fun N' R' J' hm => m_combineC hm hI) (fun σ => by unfold f_L_law_B23_L1193 f_L_law_B23_L1930; rw [L6, nI_add])
  rw [if_neg h12]
  by_cases h13 : w = 13
  · rw [if_pos h13]
    simp (disch := omega) only [L1, L2, L3, L4, L5, nI_add, c_scI]
    exact law_case hL (kl_derive hL) (by have := rk_derive (S := S) (x := xs (i + 1)) (y := xs (i + 2)) (z := xs (i + 3)); omega) (fun N' R' J' hm => m_deriveC hm hI) (fun σ => by unfold f_L_law_B23_L1273 f_L_law_B23_L1930; rw [L6, nI_add])
  rw [if_neg h13]
  by_cases h14 : w = 14
  · rw [if_pos h14]
    simp (disch := omega) only [L1, L2, L3, L4, L5, nI_add, c_scI]
    exact law_case hL (kl_scale hL) (by have := rk_scale (S := S) (x := xs (i + 1)) (y := xs (i + 2)); omega) (fun N' R' J' hm => m_scale hm hI) (fun σ => by unfold f_L_law_B23_L1341 f_L_law_B23_L1930; rw [L6, nI_add])
  rw [if_neg h14]
  by_cases h15 : w = 15
  · rw [if_pos h15]
    simp (disch := omega) only [L1, L2, L3, L4, L5, nI_add, c_scI]
    exact law_case hL (kl_dimension hL) (by have := rk_dimension (S := S) (x := xs (i + 1)) (y := xs (i + 2)); omega) (fun N' R' J' hm => m_dimC hm hI) (fun σ => by unfold f_L_law_B23_L1409 f_L_law_B23_L1930; rw [L6, nI_add])
  rw [if_neg h15]
  by_cases h16 : w = 16
  · rw [if_pos h16]
    simp (disch := omega) only [L1, L2, L3, L4, L5, nI_add, c_scI]
    exact law_case hL (kl_basisWord hL) (by have := rk_basisWord (S := S) (x := xs (i + 1)) (y := xs (i + 2)); omega) (fun N' R' J' hm => m_basisW hm hI) (fun σ => by unfold f_L_law_B23_L1477 f_L_law_B23_L1930; rw [L6, nI_add])
  rw [if_neg h16]
  by_cases h17 : w = 17
  · rw [if_pos h17]
    simp (disch := omega) only [L1, L2, L3, L4, L5, nI_add, c_scI]
    exact law_case hL (kl_differing hL) (by have := rk_differing (S := S) (x := xs (i + 1)) (y := xs (i + 2)); omega) (fun N' R' J' hm => m_diff hm hI) (fun σ => by unfold f_L_law_B23_L1545 f_L_law_B23_L1930; rw [L6, nI_add])
  rw [if_neg h17]
  by_cases h18 : w = 18
  · rw [if_pos h18]
    simp (disch := omega) only [L1, L2, L3, L4, L5, nI_add, c_scI]
    exact law_case hL (kl_hankelRank hL) (by have := rk_hankelRank (S := S) (x := xs (i + 1)) (y := xs (i + 2)); omega) (fun N' R' J' hm => m_hankel hm hI) (fun σ => by unfold f_L_law_B23_L1613 f_L_law_B23_L1930; rw [L6, nI_add])
  rw [if_neg h18]
  by_cases h19 : w = 19
  · rw [if_pos h19]
    simp (disch := omega) only [L1, L2, L3, L4, L5, nI_add, c_scI]
    exact law_recurs (K := fun σ => f_L_law_B23_L1688 xs L b Γ b o (o + 373) (o + 390) (nI i) σ) (C := fun a c σ => f_L_law_B23_L1682 xs L b Γ b o (o + 373) (o + 390) (nI i) a c σ) hL (kl_recurs hL) (by have := rk_recurs (S := S) (x := xs (i + 1)) (y := xs (i + 2)); omega) r01_recurs (fun N' R' J' hm => m_recurs hm hI) (fun σ => by unfold f_L_law_B23_L1688 f_L_law_B23_L1930; rw [L6, nI_add]) (fun a σ => by unfold f_L_law_B23_L1682; exact if_pos ((lg_cmp_eq _ _).mpr rfl))
  rw [if_neg h19]
  by_cases h20 : w = 20
  · rw [if_pos h20]
    simp (disch := omega) only [L1, L2, L3, L4, L5, nI_add, c_scI]
    exact law_case hL (kl_inverse hL) (by have := rk_inverse (S := S) (x := xs (i + 1)); omega) (fun N' R' J' hm => m_inverse hm hI) (fun σ => by unfold f_L_law_B23_L1744 f_L_law_B23_L1930; rw [L6, nI_add])
  rw [if_neg h20]
  by_cases h21 : w = 21
  · rw [if_pos h21]
    simp (disch := omega) only [L1, L2, L3, L4, L5, nI_add, c_scI]
    exact law_case hL (kl_append hL) (by have := rk_append (S := S) (x := xs (i + 1)); omega) (fun N' R' J' hm => m_append hm hI) (fun σ => by unfold f_L_law_B23_L1800 f_L_law_B23_L1930; rw [L6, nI_add])
  rw [if_neg h21]
  by_cases h22 : w = 22
  · rw [if_pos h22]
    exact law_clear hL (fun σ => by unfold f_L_law_B23_L1930; rw [L6, nI_add])
  rw [if_neg h22]
  by_cases h23 : w = 23
  · rw [if_pos h23]
    simp (disch := omega) only [L1, L2, L3, L4, L5, nI_add, c_scI]
    exact law_case hL (kl_parse hL) (by have := rk_parse (S := S) (x := xs (i + 1)); omega) (fun N' R' J' hm => m_parse hm hI) (fun σ => by unfold f_L_law_B23_L1869 f_L_law_B23_L1930; rw [L6, nI_add])
  rw [if_neg h23]
  by_cases h24 : w = 24
  · rw [if_pos h24]
    exact law_case hL (kl_undo hL) (by have := rk_undo (S := S); omega) (fun N' R' J' hm => m_undoC hm hI) (fun σ => by unfold f_L_law_B23_L1913 f_L_law_B23_L1930; rw [L6, nI_add])
  rw [if_neg h24]
  by_cases h25 : w = 25
  · rw [if_pos h25]
    exact law_digest hL (fun σ => by unfold f_L_law_B23_L1930; rw [L6, nI_add])
  rw [if_neg h25]
  unfold f_L_law_B23_L1930
  rw [L6, nI_add]
  exact ⟨N, R, J, S, rfl, hL⟩
end STP
