/-! ===== the rank in the model, whole ===== -/
section ML
variable {Γ : zSh} {N : Mem} {R : Mem} {J : Nat → Nat → Int64} {p h w : Nat} {G : Nat → Nat → Nat}
theorem m_rank (hm : mS Γ R p) (hh : h ≤ 31) (hw : w ≤ 31) (hG : ∀ k j, k < h → j < w → N (p + 12) (32 * k + j) = G k j) (hb : ∀ k j, k < h → j < w → G k j < 10007) : Mx (f_X7_rank Γ p (nI h) (nI w) (cS N R J)) (fun σ => (nI (rkS h G w).1, σ)) R J (fun N' => frA N N' (p + 12) (p + 13)) := by
  let inv : Nat → Mem → Prop := fun c N' => frA N N' (p + 12) (p + 13) ∧ (∀ k j, k < h → j < w → N' (p + 12) (32 * k + j) < 10007) ∧ ∀ k j, (rkS h G c).1 ≤ k → k < h → j < w → N' (p + 12) (32 * k + j) = (rkS h G c).2 k j
  unfold f_X7_rank
  rw [L0]
  suffices hh2 : ∃ b, loopM (fun q => f_X7_rank_B5 Γ p (nI h) (nI w) q.1 q.2.1 q.2.2) FUEL (nI 0, nI 0, cS N R J) = some b ∧ ∃ N', b = (nI (rkS h G w).1, cS N' R J) ∧ frA N N' (p + 12) (p + 13) by
    obtain ⟨b, e1, N', rfl, e2⟩ := hh2
    rw [e1]
    exact mx_eq rfl e2
  refine loopM_e (fun c s => ∃ N', s = (nI (rkS h G c).1, nI c, cS N' R J) ∧ inv c N') (fun b => ∃ N', b = (nI (rkS h G w).1, cS N' R J) ∧ frA N N' (p + 12) (p + 13)) w ?_ w 0 FUEL _ (by omega) ⟨N, rfl, frA.refl, fun k j a b => by rw [hG k j a b]; exact hb k j a b, fun k j _ a b => hG k j a b⟩ (by unfold FUEL; omega)
  intro c s hc ⟨N1, e, r1, r2, r3⟩
  subst e
  obtain ⟨f1, f2⟩ := rk_le (h := h) (G := G) c
  show (c < w ∧ ∃ s', f_X7_rank_B5 _ _ _ _ _ _ _ = some (.inl s') ∧ _) ∨ ∃ b, f_X7_rank_B5 _ _ _ _ _ _ _ = some (.inr b) ∧ _
  unfold f_X7_rank_B5
  by_cases e1 : c = w
  · subst e1
    rw [ile_t (by omega) (by omega)]
    exact Or.inr ⟨_, rfl, N1, rfl, r1⟩
  have hcw : c < w := by omega
  rw [ile_f (by omega) (by omega)]
  have hst : rkS h G (c + 1) = if gfi (rkS h G c).2 h (rkS h G c).1 c = h ∨ h ≤ (rkS h G c).1 then rkS h G c else ((rkS h G c).1 + 1, gel (rkS h G c).2 (rkS h G c).1 (gfi (rkS h G c).2 h (rkS h G c).1 c) c) := rfl
  by_cases e2 : h ≤ (rkS h G c).1
  · rw [ile_t e2 (by omega)]
    have := rk_stop e2 (w - c)
    rw [show c + (w - c) = w by omega] at this
    exact Or.inr ⟨_, rfl, N1, by rw [this], r1⟩
  rw [ile_f (by omega) (by omega)]
  obtain ⟨i1, i2⟩ := gfi_le (G := (rkS h G c).2) (c := c) f1
  obtain ⟨i3, i4⟩ := gfi_spec (G := (rkS h G c).2) (c := c) f1
  generalize hf : (rkS h G c).1 = f at *
  generalize hi : gfi (rkS h G c).2 h f c = i at *
  refine Or.inl ⟨hcw, ?_⟩
  have hl : loopM (fun q => f_X7_rank_B19 Γ p (nI h) (nI w) (nI f) (nI c) q.1 q.2) FUEL (nI f, cS N1 R J) = some (nI i, cS N1 R J) := by
    refine loop_for (fun k => (nI (f + k), cS N1 R J)) _ (i - f) rfl (by unfold FUEL; omega) ?_ ?_
    · intro k hk
      have g1 := r3 (f + k) c (by omega) (by omega) hcw
      rw [i3 (f + k) (by omega) (by omega)] at g1
      show f_X7_rank_B19 _ _ _ _ _ _ _ _ = _
      unfold f_X7_rank_B19
      simp (disch := omega) only [c_bnd, c_chk, c_lb0, c_lb1, c_lb2, c_lb3, L0, L1, L2, L10007, nI_add, pk_mul, ile_t, ile_f, ilt_t, ilt_f, ieq_t, ieq_f, c_rmI, setF_at, setF_ne, setF_setF, true_and, up1_at, up1_ne, pk_sub, pk_cpy_in, pk_cpy_out, Nat.zero_add, Nat.add_zero, Nat.zero_mul, Nat.sub_zero, Nat.add_sub_cancel_left, c_gfI hm.ob, c_pfI hm.ob, c_chkO hm.ob, c_gfR hm.ob hm.rpool, c_ldI hm.gpool, c_stI hm.gpool, m_iAt, m_fAt, m_at, m_many hm, L12, L13, L25, L144, L313, c_gfR hm.ob hm.rgrid, c_ldI hm.ggrid, c_stI hm.ggrid, L32, g1, if_true]
      rfl
    · show f_X7_rank_B19 _ _ _ _ _ _ _ _ = _
      unfold f_X7_rank_B19
      rw [show f + (i - f) = i by omega]
      by_cases e3 : i = h
      · simp (disch := omega) only [c_bnd, c_chk, c_lb0, c_lb1, c_lb2, c_lb3, L0, L1, L2, L10007, nI_add, pk_mul, ile_t, ile_f, ilt_t, ilt_f, ieq_t, ieq_f, c_rmI, setF_at, setF_ne, setF_setF, true_and, up1_at, up1_ne, pk_sub, pk_cpy_in, pk_cpy_out, Nat.zero_add, Nat.add_zero, Nat.zero_mul, Nat.sub_zero, Nat.add_sub_cancel_left]
      · have g1 := r3 i c i1 (by omega) hcw
        have g2 := r2 i c (by omega) hcw
        have g3 := i4 (by omega)
        rw [g1] at g2
        simp (disch := omega) only [c_bnd, c_chk, c_lb0, c_lb1, c_lb2, c_lb3, L0, L1, L2, L10007, nI_add, pk_mul, ile_t, ile_f, ilt_t, ilt_f, ieq_t, ieq_f, c_rmI, setF_at, setF_ne, setF_setF, true_and, up1_at, up1_ne, pk_sub, pk_cpy_in, pk_cpy_out, Nat.zero_add, Nat.add_zero, Nat.zero_mul, Nat.sub_zero, Nat.add_sub_cancel_left, c_gfI hm.ob, c_pfI hm.ob, c_chkO hm.ob, c_gfR hm.ob hm.rpool, c_ldI hm.gpool, c_stI hm.gpool, m_iAt, m_fAt, m_at, m_many hm, L12, L13, L25, L144, L313, c_gfR hm.ob hm.rgrid, c_ldI hm.ggrid, c_stI hm.ggrid, L32, g1]
  rw [lb1_of hl]
  by_cases e3 : i = h
  · rw [ile_t (by omega) (by omega)]
    unfold f_X7_rank_B5_L67
    rw [if_pos (Or.inl e3)] at hst
    rw [L1, nI_add]
    refine ⟨_, rfl, N1, ?_, r1, r2, ?_⟩
    · rw [hst, hf]
    · rw [hst, hf]
      exact r3
  · rw [ile_f (by omega) (by omega), c_chkO hm.ob]
    obtain ⟨N2, s0, s1, s2, s3⟩ := m_elim (J := J) hm hh hw i1 (show i < h by omega) hcw r2 r3
    rw [s0, c_bnd]
    unfold f_X7_rank_B5_L67
    rw [if_neg (by omega)] at hst
    rw [L1, nI_add, nI_add]
    refine ⟨_, rfl, N2, ?_, r1.trans s1, s2, ?_⟩
    · rw [hst]
    · rw [hst]
      exact fun k j a b c => s3 k j a b c
end ML
