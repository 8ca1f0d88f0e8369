/-! ===== the model: drawing ===== -/
section MO
variable {Γ : zSh} {N : Mem} {R : Mem} {J : Nat → Nat → Int64} {p x n s : Nat}
theorem up2_up2 {α : Type} {f : Nat → Nat → α} {a k : Nat} {u v : α} : up2 (up2 f a k u) a k v = up2 f a k v := by
  funext y z
  unfold up2
  by_cases e : y = a ∧ z = k
  · rw [if_pos e, if_pos e]
  · rw [if_neg e, if_neg e, if_neg e]
theorem m_draws (h : mS Γ R p) (hs : s < 2147483648) {k : Nat} : f_X7_draws Γ p (cS N R (up2 J p 4 (lN (ds s k)))) = some (nI (dv (ds s (k + 1))), cS N R (up2 J p 4 (lN (ds s (k + 1))))) := by
  have h1 : ds s k < 2147483648 := ds_lt hs
  have h2 : ds s (k + 1) < 2147483648 := ds_lt hs
  have h3 := dv_lt (s := ds s (k + 1))
  have e : nd (ds s k) = ds s (k + 1) := rfl
  unfold f_X7_draws
  rw [c_gfL h.ob, up2_at, l_nd h1, e, c_pfL h.ob, up2_up2, c_gfL h.ob, up2_at, l_dv h2, l_i (by omega)]
theorem m_draw1 (h : mS Γ R p) (hx : x < 26) (hn : n ≤ 12) (hs : s < 2147483648) {N0 : Mem} (d0 : pD N0 N p x (drwA n s) (fun _ => False) (fun _ => False) (fun _ _ _ => False)) : ∃ N', loopM (fun q => f_X7_random_B62 Γ p (nI x) (nI n) q.1 q.2) FUEL (nI 0, cS N R (up2 J p 4 (lN s))) = some (cS N' R (up2 J p 4 (lN (ds s (2 * n))))) ∧ pD N0 N' p x (drwA n s) (fun _ => True) (fun _ => True) (fun _ _ _ => False) := by
  suffices hh : ∃ b, loopM (fun q => f_X7_random_B62 Γ p (nI x) (nI n) q.1 q.2) FUEL (nI 0, cS N R (up2 J p 4 (lN s))) = some b ∧ ∃ N', b = cS N' R (up2 J p 4 (lN (ds s (2 * n)))) ∧ pD N0 N' p x (drwA n s) (fun i => i < n) (fun i => i < n) (fun _ _ _ => False) by
    obtain ⟨b, e1, N', rfl, e2⟩ := hh
    exact ⟨N', e1, e2.mono (fun i a _ => a) (fun i a _ => a) (fun l i j _ _ _ e => e)⟩
  refine loopM_q (fun c st => ∃ N', st = (nI c, cS N' R (up2 J p 4 (lN (ds s (2 * c))))) ∧ pD N0 N' p x (drwA n s) (fun i => i < c) (fun i => i < c) (fun _ _ _ => False)) (fun b => ∃ N', b = cS N' R (up2 J p 4 (lN (ds s (2 * n)))) ∧ pD N0 N' p x (drwA n s) (fun i => i < n) (fun i => i < n) (fun _ _ _ => False)) n 0 FUEL _ ⟨N, rfl, d0.mono (fun i _ e => absurd e (by omega)) (fun i _ e => absurd e (by omega)) (fun l i j _ _ _ e => e)⟩ (by unfold FUEL; omega) ?_ ?_
  · intro c st _ hc ⟨N1, e, d1⟩
    subst e
    have hc' : c < n := by omega
    show ∃ s', f_X7_random_B62 _ _ _ _ _ _ = some (.inl s') ∧ _
    unfold f_X7_random_B62
    rw [ile_f hc' (by omega), c_gfR h.ob h.rpool (by omega), m_iAt, c_bnd, c_chkO h.ob, m_draws h hs, c_bnd, c_stI h.gpool (by omega) (by omega), c_gfR h.ob h.rpool (by omega), m_fAt, c_bnd, c_chkO h.ob, m_draws h hs, c_bnd, c_stI h.gpool (by omega) (by omega), setF_at, setF_setF, L1, nI_add]
    refine ⟨_, rfl, _, rfl, d1.put hn (fun z e => ?_) (fun i a b => ?_) (fun i a b => ?_) (fun l i j _ _ _ e => e.elim)⟩
    · simp (disch := omega) only [c_bnd, c_chk, c_lb0, c_lb1, c_lb2, c_lb3, L0, L1, L2, L10007, nI_add, pk_mul, ile_t, ile_f, ilt_t, ilt_f, ieq_t, ieq_f, c_rmI, setF_at, setF_ne, setF_setF, true_and, up1_at, up1_ne, pk_sub, pk_cpy_in, pk_cpy_out, Nat.zero_add, Nat.add_zero, Nat.zero_mul, Nat.sub_zero, Nat.add_sub_cancel_left]
    · have a' : i < n := a
      by_cases e : i = c
      · subst e
        refine Or.inr ?_
        simp (disch := omega) only [c_bnd, c_chk, c_lb0, c_lb1, c_lb2, c_lb3, L0, L1, L2, L10007, nI_add, pk_mul, ile_t, ile_f, ilt_t, ilt_f, ieq_t, ieq_f, c_rmI, setF_at, setF_ne, setF_setF, true_and, up1_at, up1_ne, pk_sub, pk_cpy_in, pk_cpy_out, Nat.zero_add, Nat.add_zero, Nat.zero_mul, Nat.sub_zero, Nat.add_sub_cancel_left]
        rfl
      · refine Or.inl ⟨by omega, ?_⟩
        simp (disch := omega) only [c_bnd, c_chk, c_lb0, c_lb1, c_lb2, c_lb3, L0, L1, L2, L10007, nI_add, pk_mul, ile_t, ile_f, ilt_t, ilt_f, ieq_t, ieq_f, c_rmI, setF_at, setF_ne, setF_setF, true_and, up1_at, up1_ne, pk_sub, pk_cpy_in, pk_cpy_out, Nat.zero_add, Nat.add_zero, Nat.zero_mul, Nat.sub_zero, Nat.add_sub_cancel_left]
    · have a' : i < n := a
      by_cases e : i = c
      · subst e
        refine Or.inr ?_
        simp (disch := omega) only [c_bnd, c_chk, c_lb0, c_lb1, c_lb2, c_lb3, L0, L1, L2, L10007, nI_add, pk_mul, ile_t, ile_f, ilt_t, ilt_f, ieq_t, ieq_f, c_rmI, setF_at, setF_ne, setF_setF, true_and, up1_at, up1_ne, pk_sub, pk_cpy_in, pk_cpy_out, Nat.zero_add, Nat.add_zero, Nat.zero_mul, Nat.sub_zero, Nat.add_sub_cancel_left]
        rfl
      · refine Or.inl ⟨by omega, ?_⟩
        simp (disch := omega) only [c_bnd, c_chk, c_lb0, c_lb1, c_lb2, c_lb3, L0, L1, L2, L10007, nI_add, pk_mul, ile_t, ile_f, ilt_t, ilt_f, ieq_t, ieq_f, c_rmI, setF_at, setF_ne, setF_setF, true_and, up1_at, up1_ne, pk_sub, pk_cpy_in, pk_cpy_out, Nat.zero_add, Nat.add_zero, Nat.zero_mul, Nat.sub_zero, Nat.add_sub_cancel_left]
  · intro st ⟨N1, e, d1⟩
    subst e
    rw [Nat.zero_add] at d1 ⊢
    refine ⟨_, ?_, N1, rfl, d1⟩
    show f_X7_random_B62 _ _ _ _ _ _ = _
    unfold f_X7_random_B62
    rw [ile_t (by omega) (by omega)]
end MO
