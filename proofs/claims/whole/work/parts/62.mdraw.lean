/-! ===== the model: drawing the letters' numbers ===== -/
section MP2
variable {Γ : zSh} {N : Mem} {R : Mem} {J : Nat → Nat → Int64} {p x n s : Nat}
theorem m_draw2 (h : mS Γ R p) (hx : x < 26) (hn : n ≤ 12) (hs : s < 2147483648) {N0 : Mem} (d0 : pD N0 N p x (drwA n s) (fun _ => True) (fun _ => True) (fun _ _ _ => False)) : ∃ N', loopM (fun q => f_X7_random_B107 Γ p (nI x) (nI n) q.1 q.2) FUEL (nI 0, cS N R (up2 J p 4 (lN (ds s (2 * n))))) = some (cS N' R (up2 J p 4 (lN (ds s (2 * n + 2 * (n * n)))))) ∧ frP N0 N' p (313 * x) (313 * x + 313) ∧ mAu N' p x (drwA n s) := by
  have hnn : n * n ≤ 144 := Nat.mul_le_mul hn hn
  suffices hh : ∃ b, loopM (fun q => f_X7_random_B107 Γ p (nI x) (nI n) q.1 q.2) FUEL (nI 0, cS N R (up2 J p 4 (lN (ds s (2 * n))))) = some b ∧ ∃ N', b = cS N' R (up2 J p 4 (lN (ds s (2 * n + 2 * (n * n))))) ∧ pD N0 N' p x (drwA n s) (fun _ => True) (fun _ => True) (fun l i j => l * (n * n) + (i * n + j) < 2 * (n * n)) by
    obtain ⟨b, e1, N', rfl, e2⟩ := hh
    refine ⟨N', e1, e2.1, e2.toAu (fun i _ => trivial) (fun i _ => trivial) (fun l i j hl hi hj => ?_)⟩
    have h1 := ix_lt' (n := n) hi hj
    have h2 := row_le (n := 2) (i := l) hl
    rcases (by omega : l = 0 ∨ l = 1) with rfl | rfl
    · rw [Nat.zero_mul]; omega
    · rw [Nat.one_mul]; omega
  refine loopM_q (fun c st => ∃ N', st = (nI c, cS N' R (up2 J p 4 (lN (ds s (2 * n + c))))) ∧ pD N0 N' p x (drwA n s) (fun _ => True) (fun _ => True) (fun l i j => l * (n * n) + (i * n + j) < c)) (fun b => ∃ N', b = cS N' R (up2 J p 4 (lN (ds s (2 * n + 2 * (n * n))))) ∧ pD N0 N' p x (drwA n s) (fun _ => True) (fun _ => True) (fun l i j => l * (n * n) + (i * n + j) < 2 * (n * n))) (2 * (n * n)) 0 FUEL _ ⟨N, rfl, d0.mono (fun i _ e => e) (fun i _ e => e) (fun l i j _ _ _ e => absurd e (by omega))⟩ (by unfold FUEL; omega) ?_ ?_
  · intro c st _ hc ⟨N1, e, d1⟩
    subst e
    have hc' : c < 2 * (n * n) := by omega
    obtain ⟨t1, t2, t4⟩ := dvm' hc'
    obtain ⟨t3, t5, t6⟩ := dvm' t2
    have hn0 : 0 < n := by omega
    have hn1 : 0 < n * n := Nat.mul_pos hn0 hn0
    have hle : c % (n * n) ≤ c := Nat.mod_le _ _
    show ∃ s', f_X7_random_B107 _ _ _ _ _ _ = some (.inl s') ∧ _
    unfold f_X7_random_B107
    rw [L2, pk_mul, pk_mul, Nat.mul_assoc, ile_f hc' (by omega), pk_mul, c_dvI (by omega) hn1 (by omega), c_rmI (by omega) hn1 (by omega), c_gfR h.ob h.rpool (by omega), c_dvI (by omega) hn0 (by omega), c_rmI (by omega) hn0 (by omega), m_at, c_bnd, c_chkO h.ob, m_draws h hs, c_bnd]
    generalize hl : c / (n * n) = l at *
    generalize hr : c % (n * n) = r at *
    generalize hi : r / n = i at *
    generalize hj : r % n = j at *
    rw [c_stI h.gpool (by omega) (by omega), L1, nI_add]
    refine ⟨_, rfl, _, rfl, d1.put hn (fun z e => ?_) (fun a b c => ?_) (fun a b c => ?_) (fun l' i' j' a1 a2 a3 a4 => ?_)⟩
    · exact up1_ne (by omega)
    · have b' : a < n := b
      exact Or.inl ⟨trivial, up1_ne (by omega)⟩
    · have b' : a < n := b
      exact Or.inl ⟨trivial, up1_ne (by omega)⟩
    · have a2' : i' < n := a2
      have a3' : j' < n := a3
      by_cases e : l' = l ∧ i' = i ∧ j' = j
      · obtain ⟨rfl, rfl, rfl⟩ := e
        refine Or.inr ?_
        rw [up1_at]
        show _ = dv (ds s (2 * n + l' * (n * n) + (i' * n + j') + 1))
        have e5 : l' * (n * n) + (i' * n + j') = c := by
          rw [Nat.mul_comm l', Nat.mul_comm i']
          omega
        rw [show 2 * n + l' * (n * n) + (i' * n + j') + 1 = 2 * n + c + 1 by omega]
      · refine Or.inl ⟨?_, up1_ne (by omega)⟩
        have hne : l' * (n * n) + (i' * n + j') ≠ c := fun q => by
          have q2 : l' * (n * n) + (i' * n + j') = l * (n * n) + r := by
            rw [q, Nat.mul_comm l]
            omega
          obtain ⟨q3, q4⟩ := ix_inj q2 (ix_lt' a2' a3') t2
          have q5 : i' * n + j' = i * n + j := by
            rw [q4, Nat.mul_comm i]
            omega
          obtain ⟨q6, q7⟩ := ix_inj q5 a3' t5
          exact e ⟨q3, q6, q7⟩
        have a4' : l' * (n * n) + (i' * n + j') < c + 1 := a4
        omega
  · intro st ⟨N1, e, d1⟩
    subst e
    rw [Nat.zero_add] at d1 ⊢
    refine ⟨_, ?_, N1, rfl, d1⟩
    show f_X7_random_B107 _ _ _ _ _ _ = _
    unfold f_X7_random_B107
    rw [L2, pk_mul, pk_mul, Nat.mul_assoc, ile_t (Nat.le_refl _) (by omega)]
end MP2
