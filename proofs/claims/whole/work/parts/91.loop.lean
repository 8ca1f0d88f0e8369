/-! ===== the law's loop ===== -/
section LOO
variable {Γ : zSh} {N R : Mem} {J : Nat → Nat → Int64} {o i : Nat} {S : tS} {xs : Nat → Int32} {L b : Nat}
theorem neg6 : ∀ n, n < 6 → (nI n - 6).toInt < 0 := by decide
theorem law_exit (hi : L < i + 6) (hi2 : i ≤ 3072) (hL2 : L ≤ 3072) {σ : zSt} : f_L_law_B23 xs L b Γ b o (o + 373) (o + 390) (nI i) σ = some (.inr (.inl σ)) := by
  unfold f_L_law_B23
  rw [c_scL]
  refine if_pos ?_
  rw [Int32.lt_iff_toInt_lt, nI_toInt (by omega)]
  by_cases e : L < 6
  · have := neg6 L e
    omega
  · rw [L6, pk_sub (by omega), nI_toInt (by omega)]
    omega
theorem law_loop (hL : yLI Γ N R o S) (hL2 : L ≤ 3072) : ∃ σ', loopM (fun q => f_L_law_B23 xs L b Γ b o (o + 373) (o + 390) q.1 q.2) 513 (0, cS N R J) = some (.inl σ') := by
  have hl : ∃ bb, loopM (fun q => f_L_law_B23 xs L b Γ b o (o + 373) (o + 390) q.1 q.2) 513 (0, cS N R J) = some bb ∧ ∃ σ' : zSt, bb = .inl σ' := by
    refine loopM_e (fun k s => ∃ (N : Mem) (R : Mem) (J : Nat → Nat → Int64) (S : tS), s = (nI (6 * k), cS N R J) ∧ yLI Γ N R o S) (fun bb : zSt ⊕ (Int32 × zSt) => ∃ σ' : zSt, bb = .inl σ') 512 ?_ 512 0 513 _ (by omega) ⟨N, R, J, S, rfl, hL⟩ (by omega)
    intro k s hk ⟨N1, R1, J1, S1, e0, h1⟩
    subst e0
    by_cases e : 6 * k + 6 ≤ L
    · obtain ⟨N2, R2, J2, S2, e2, h2⟩ := law_step (J := J1) (xs := xs) (b := b) h1 e hL2
      exact Or.inl ⟨by omega, _, e2, N2, R2, J2, S2, rfl, h2⟩
    · exact Or.inr ⟨_, law_exit (by omega) (by omega) hL2, _, rfl⟩
  obtain ⟨bb, e1, σ', e2⟩ := hl
  exact ⟨σ', by rw [e1, e2]⟩
end LOO
