/-! ===== the model: saving, undoing ===== -/
section MN
variable {Γ : zSh} {N : Mem} {R : Mem} {J : Nat → Nat → Int64} {p : Nat}
theorem m_save (h : mS Γ R p) {m : Nat} (hm : N p 2 = m) (hm4 : m ≤ 4) : Mx (f_X7_save Γ p (cS N R J)) (fun σ => ((), σ)) R J (fun N' => (∀ x, x ≠ p → x ≠ p + 2 → N' x = N x) ∧ (∀ i, i ≠ 2 → N' p i = N p i) ∧ N' p 2 = (if m = 4 then 3 else m) + 1 ∧ (∀ z, z < 1252 * (if m = 4 then 3 else m) → N' (p + 2) z = N (p + 2) (z + if m = 4 then 1252 else 0)) ∧ ∀ z, z < 1252 → N' (p + 2) (1252 * (if m = 4 then 3 else m) + z) = N (p + 1) z) := by
  unfold f_X7_save
  rw [c_gfI h.ob, hm, L4]
  by_cases e : m = 4
  · rw [ieq_t e, if_pos e, if_pos e, L0]
    refine mx_lb0 (mx_for (fun c N' => frA N N' (p + 2) (p + 3) ∧ (∀ z, z < c → N' (p + 2) z = N (p + 2) (z + 1252)) ∧ ∀ z, c ≤ z → N' (p + 2) z = N (p + 2) z) (s := 0) (e := 3756) (by omega) (by omega) ⟨frA.refl, fun z e => absurd e (by omega), fun z _ => rfl⟩ ?_ ?_) ?_
    · intro c N1 _ hc ⟨r1, r2, r3⟩
      have f1 := r3 (c + 1252) (by omega)
      show Mx (f_X7_save_B10 _ _ _ _) _ _ _ _
      unfold f_X7_save_B10
      simp (disch := omega) only [c_bnd, c_chk, c_lb0, c_lb1, c_lb2, c_lb3, L0, L1, L2, L10007, nI_add, pk_mul, ile_t, ile_f, ilt_t, ilt_f, ieq_t, ieq_f, c_rmI, setF_at, setF_ne, setF_setF, true_and, up1_at, up1_ne, pk_sub, pk_cpy_in, pk_cpy_out, Nat.zero_add, Nat.add_zero, Nat.zero_mul, Nat.sub_zero, Nat.add_sub_cancel_left, c_gfR h.ob h.rsaved, c_ldI h.gsaved, c_stI h.gsaved, L1252, L3756, f1]
      refine mx_eq rfl ⟨r1.trans (frA.set (by omega) (by omega)), fun z hz => ?_, fun z hz => ?_⟩
      · rw [setF_at]
        by_cases e2 : z = c
        · subst e2
          exact up1_at
        · rw [up1_ne e2]
          exact r2 z (by omega)
      · rw [setF_at, up1_ne (by omega)]
        exact r3 z (by omega)
    · intro N1 _
      show f_X7_save_B10 _ _ _ _ = _
      unfold f_X7_save_B10
      simp (disch := omega) only [c_bnd, c_chk, c_lb0, c_lb1, c_lb2, c_lb3, L0, L1, L2, L10007, nI_add, pk_mul, ile_t, ile_f, ilt_t, ilt_f, ieq_t, ieq_f, c_rmI, setF_at, setF_ne, setF_setF, true_and, up1_at, up1_ne, pk_sub, pk_cpy_in, pk_cpy_out, Nat.zero_add, Nat.add_zero, Nat.zero_mul, Nat.sub_zero, Nat.add_sub_cancel_left, L3756]
    · intro N1 ⟨r1, r2, r3⟩
      have f0 : N1 p 2 = 4 := by rw [r1 p (by omega), hm]; exact e
      rw [c_gfI h.ob, f0, L1, pk_sub (by omega), c_pfI h.ob]
      refine mx_mono (m_saveL h (m := 3) (by rw [setF_at]; exact up1_at) (by omega)) ?_
      intro N2 ⟨s1, s2, s3, s4, s5⟩
      refine ⟨fun x a b => ?_, fun i hi => ?_, s3, fun z hz => ?_, fun z hz => ?_⟩
      · rw [s1 x a b, setF_ne a]; exact r1 x (by omega)
      · rw [s2 i hi, setF_at, up1_ne hi, r1 p (by omega)]
      · rw [s4 z hz, setF_ne (by omega)]; exact r2 z (by omega)
      · rw [s5 z hz, setF_ne (by omega), r1 (p + 1) (by omega)]
  · rw [ieq_f e (by omega) (by omega), if_neg e, if_neg e]
    exact m_saveL h hm (by omega)
/-- the pool as it was saved -/
theorem m_undoLoop (h : mS Γ R p) {m : Nat} (hm : N p 2 = m) (hm4 : m < 4) : Mx (loopM (fun q => f_X7_undo_B35 Γ p q.1 q.2) FUEL (nI 0, cS N R J)) (fun σ => σ) R J (fun N' => frA N N' (p + 1) (p + 2) ∧ (∀ z, z < 1252 → N' (p + 1) z = N (p + 2) (1252 * m + z)) ∧ ∀ z, 1252 ≤ z → N' (p + 1) z = N (p + 1) z) := by
  refine mx_mono (mx_for (fun c N' => frA N N' (p + 1) (p + 2) ∧ (∀ z, z < c → N' (p + 1) z = N (p + 2) (1252 * m + z)) ∧ ∀ z, c ≤ z → N' (p + 1) z = N (p + 1) z) (s := 0) (e := 1252) (by omega) (by omega) ⟨frA.refl, fun z e => absurd e (by omega), fun z _ => rfl⟩ ?_ ?_) (fun N' a => a)
  · intro c N1 _ hc ⟨r1, r2, r3⟩
    have f0 : N1 p 2 = m := by rw [r1 p (by omega)]; exact hm
    have f1 : N1 (p + 2) = N (p + 2) := r1 _ (by omega)
    show Mx (f_X7_undo_B35 _ _ _ _) _ _ _ _
    unfold f_X7_undo_B35
    simp (disch := omega) only [c_bnd, c_chk, c_lb0, c_lb1, c_lb2, c_lb3, L0, L1, L2, L10007, nI_add, pk_mul, ile_t, ile_f, ilt_t, ilt_f, ieq_t, ieq_f, c_rmI, setF_at, setF_ne, setF_setF, true_and, up1_at, up1_ne, pk_sub, pk_cpy_in, pk_cpy_out, Nat.zero_add, Nat.add_zero, Nat.zero_mul, Nat.sub_zero, Nat.add_sub_cancel_left, c_gfI h.ob, c_pfI h.ob, c_chkO h.ob, c_gfR h.ob h.rpool, c_ldI h.gpool, c_stI h.gpool, m_iAt, m_fAt, m_at, m_many h, L12, L13, L25, L144, L313, c_gfR h.ob h.rsaved, c_ldI h.gsaved, c_stI h.gsaved, L1252, f0, f1]
    refine mx_eq rfl ⟨r1.trans (frA.set (by omega) (by omega)), fun z hz => ?_, fun z hz => ?_⟩
    · rw [setF_at]
      by_cases e2 : z = c
      · subst e2
        exact up1_at
      · rw [up1_ne e2]
        exact r2 z (by omega)
    · rw [setF_at, up1_ne (by omega)]
      exact r3 z (by omega)
  · intro N1 _
    show f_X7_undo_B35 _ _ _ _ = _
    unfold f_X7_undo_B35
    simp (disch := omega) only [c_bnd, c_chk, c_lb0, c_lb1, c_lb2, c_lb3, L0, L1, L2, L10007, nI_add, pk_mul, ile_t, ile_f, ilt_t, ilt_f, ieq_t, ieq_f, c_rmI, setF_at, setF_ne, setF_setF, true_and, up1_at, up1_ne, pk_sub, pk_cpy_in, pk_cpy_out, Nat.zero_add, Nat.add_zero, Nat.zero_mul, Nat.sub_zero, Nat.add_sub_cancel_left, L1252]
end MN
