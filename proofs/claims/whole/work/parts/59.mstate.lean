/-! ===== the model: hash of a slot, saving ===== -/
noncomputable def hD (A : Au) (w : Int64) : Nat → Int64
  | 0 => hM A w (2 * (A.1 * A.1))
  | k + 1 => 31 * hD A w k + (nI (dimV A k)).toInt64
section MM
variable {Γ : zSh} {N : Mem} {R : Mem} {J : Nat → Nat → Int64} {p x : Nat} {X : Au}
theorem m_sumsSlot (h : mS Γ R p) (hx : x < 5) (hX : mAu N p x X) (hX12 : X.1 ≤ 12) (ok : okA X) {w : Int64} : Mx (f_X7_sumsSlot Γ p w (nI x) (cS N R J)) (fun σ => (hD X w 3, σ)) R J (fun N' => frF N N' p ∧ kp N N' p 1565 2504 0 0) := by
  have e0 := hX.1
  have hnn : X.1 * X.1 ≤ 144 := Nat.mul_le_mul hX12 hX12
  unfold f_X7_sumsSlot
  rw [c_chkO h.ob, m_many h (by omega), e0, c_bnd, L0]
  rw [show 31 * w + (nI X.1).toInt64 = hI X w 0 from rfl]
  rw [lb1_of (loop_for (fun k => (hI X w k, nI k, cS N R J)) (hI X w X.1, cS N R J) X.1 rfl (by unfold FUEL; omega) ?_ ?_)]
  rotate_left
  · intro k hk
    have e1 := (hX.2 k hk).1
    have e2 := (hX.2 k hk).2.1
    show f_X7_sumsSlot_B21 _ _ _ _ _ _ _ = _
    unfold f_X7_sumsSlot_B21
    simp (disch := omega) only [c_bnd, c_chk, c_lb0, c_lb1, c_lb2, c_lb3, L0, L1, L2, L10007, nI_add, pk_mul, ile_t, ile_f, ilt_t, ilt_f, ieq_t, ieq_f, c_rmI, setF_at, setF_ne, setF_setF, true_and, up1_at, up1_ne, pk_sub, pk_cpy_in, pk_cpy_out, Nat.zero_add, Nat.add_zero, Nat.zero_mul, Nat.sub_zero, Nat.add_sub_cancel_left, c_gfI h.ob, c_pfI h.ob, c_chkO h.ob, c_gfR h.ob h.rpool, c_ldI h.gpool, c_stI h.gpool, m_iAt, m_fAt, m_at, m_many h, L12, L13, L25, L144, L313, e1, e2]
    rfl
  · show f_X7_sumsSlot_B21 _ _ _ _ _ _ _ = _
    unfold f_X7_sumsSlot_B21
    simp (disch := omega) only [c_bnd, c_chk, c_lb0, c_lb1, c_lb2, c_lb3, L0, L1, L2, L10007, nI_add, pk_mul, ile_t, ile_f, ilt_t, ilt_f, ieq_t, ieq_f, c_rmI, setF_at, setF_ne, setF_setF, true_and, up1_at, up1_ne, pk_sub, pk_cpy_in, pk_cpy_out, Nat.zero_add, Nat.add_zero, Nat.zero_mul, Nat.sub_zero, Nat.add_sub_cancel_left]
  rw [show hI X w X.1 = hM X w 0 from rfl]
  rw [lb1_of (loop_for (fun k => (hM X w k, nI k, cS N R J)) (hM X w (2 * (X.1 * X.1)), cS N R J) (2 * (X.1 * X.1)) rfl (by unfold FUEL; omega) ?_ ?_)]
  rotate_left
  · intro k hk
    have e9 : hM X w (k + 1) = 31 * hM X w k + (nI (X.2.2.2 (k / (X.1 * X.1)) (k % (X.1 * X.1) / X.1) (k % X.1))).toInt64 := rfl
    obtain ⟨t1, t2, _⟩ := dvm' hk
    obtain ⟨t3, _, _⟩ := dvm' t2
    have hn0 : 0 < X.1 := by omega
    have hn1 : 0 < X.1 * X.1 := Nat.mul_pos hn0 hn0
    have t5 : k % X.1 < X.1 := Nat.mod_lt _ hn0
    show f_X7_sumsSlot_B75 _ _ _ _ _ _ _ = _
    unfold f_X7_sumsSlot_B75
    dsimp only
    have hle : k % (X.1 * X.1) ≤ k := Nat.mod_le _ _
    rw [e9, L2, pk_mul, pk_mul, Nat.mul_assoc, ile_f hk (by omega), c_gfR h.ob h.rpool (by omega), pk_mul, c_dvI (by omega) hn1 (by omega), c_rmI (by omega) hn1 (by omega), c_dvI (by omega) hn0 (by omega), c_rmI (by omega) hn0 (by omega), m_at, c_bnd]
    generalize k / (X.1 * X.1) = l at *
    generalize k % (X.1 * X.1) / X.1 = i at *
    generalize k % X.1 = j at *
    have e1 := (hX.2 i t3).2.2 j l t5 t1
    rw [c_ldI h.gpool (by omega) (by omega), e1, L1, nI_add]
  · show f_X7_sumsSlot_B75 _ _ _ _ _ _ _ = _
    unfold f_X7_sumsSlot_B75
    rw [L2, pk_mul, pk_mul, Nat.mul_assoc, ile_t (Nat.le_refl _) (by omega)]
  refine mx_lb1 (mx_for1 (fun k => hD X w k) (fun c N' => frF N N' p ∧ kp N N' p 1565 2504 0 0) (s := 0) (e := 3) (by omega) (by omega) ⟨frF.refl, fun z _ _ => rfl⟩ ?_ ?_) ?_
  · intro c N1 _ hc ⟨r1, r2⟩
    have hX1 := r2.au hX hX12 (by omega) (by omega)
    show Mx (f_X7_sumsSlot_B139 _ _ _ _ _ _) _ _ _ _
    unfold f_X7_sumsSlot_B139
    rw [L3, ile_f (by omega) (by omega), c_chkO h.ob]
    refine mx_bnd (m_dim h hx hX1 hX12 ok hc) ?_
    intro N2 ⟨s1, s2⟩
    rw [L1, nI_add]
    exact mx_eq rfl ⟨r1.trans s1, fun z a b => by rw [s2 z a b, r2 z a b]⟩
  · intro N1 _
    show f_X7_sumsSlot_B139 _ _ _ _ _ _ = _
    unfold f_X7_sumsSlot_B139
    simp (disch := omega) only [c_bnd, c_chk, c_lb0, c_lb1, c_lb2, c_lb3, L0, L1, L2, L10007, nI_add, pk_mul, ile_t, ile_f, ilt_t, ilt_f, ieq_t, ieq_f, c_rmI, setF_at, setF_ne, setF_setF, true_and, up1_at, up1_ne, pk_sub, pk_cpy_in, pk_cpy_out, Nat.zero_add, Nat.add_zero, Nat.zero_mul, Nat.sub_zero, Nat.add_sub_cancel_left, L3]
  · intro N1 r
    exact mx_eq rfl r
/-- the pool's first cells put behind the saved ones -/
theorem m_saveL (h : mS Γ R p) {m : Nat} (hm : N p 2 = m) (hm4 : m < 4) : Mx (f_X7_save_L49 Γ p (cS N R J)) (fun σ => ((), σ)) R J (fun N' => (∀ x, x ≠ p → x ≠ p + 2 → N' x = N x) ∧ (∀ i, i ≠ 2 → N' p i = N p i) ∧ N' p 2 = m + 1 ∧ (∀ z, z < 1252 * m → N' (p + 2) z = N (p + 2) z) ∧ ∀ z, z < 1252 → N' (p + 2) (1252 * m + z) = N (p + 1) z) := by
  unfold f_X7_save_L49
  rw [L0]
  refine mx_lb0 (mx_for (fun c N' => frA N N' (p + 2) (p + 3) ∧ (∀ z, z < 1252 * m → N' (p + 2) z = N (p + 2) z) ∧ ∀ z, z < c → N' (p + 2) (1252 * m + z) = N (p + 1) z) (s := 0) (e := 1252) (by omega) (by omega) ⟨frA.refl, fun z _ => rfl, fun z e => absurd e (by omega)⟩ ?_ ?_) ?_
  · intro c N1 _ hc ⟨r1, r2, r3⟩
    have f0 : N1 p 2 = m := by rw [r1 p (by omega)]; exact hm
    have f1 : N1 (p + 1) = N (p + 1) := r1 _ (by omega)
    show Mx (f_X7_save_B51 _ _ _ _) _ _ _ _
    unfold f_X7_save_B51
    simp (disch := omega) only [c_bnd, c_chk, c_lb0, c_lb1, c_lb2, c_lb3, L0, L1, L2, L10007, nI_add, pk_mul, ile_t, ile_f, ilt_t, ilt_f, ieq_t, ieq_f, c_rmI, setF_at, setF_ne, setF_setF, true_and, up1_at, up1_ne, pk_sub, pk_cpy_in, pk_cpy_out, Nat.zero_add, Nat.add_zero, Nat.zero_mul, Nat.sub_zero, Nat.add_sub_cancel_left, c_gfI h.ob, c_pfI h.ob, c_chkO h.ob, c_gfR h.ob h.rpool, c_ldI h.gpool, c_stI h.gpool, m_iAt, m_fAt, m_at, m_many h, L12, L13, L25, L144, L313, c_gfR h.ob h.rsaved, c_ldI h.gsaved, c_stI h.gsaved, L1252, f0, f1]
    refine mx_eq rfl ⟨r1.trans (frA.set (by omega) (by omega)), fun z hz => ?_, fun z hz => ?_⟩
    · rw [setF_at, up1_ne (by omega)]
      exact r2 z hz
    · rw [setF_at]
      by_cases e : z = c
      · subst e
        exact up1_at
      · rw [up1_ne (by omega)]
        exact r3 z (by omega)
  · intro N1 _
    show f_X7_save_B51 _ _ _ _ = _
    unfold f_X7_save_B51
    simp (disch := omega) only [c_bnd, c_chk, c_lb0, c_lb1, c_lb2, c_lb3, L0, L1, L2, L10007, nI_add, pk_mul, ile_t, ile_f, ilt_t, ilt_f, ieq_t, ieq_f, c_rmI, setF_at, setF_ne, setF_setF, true_and, up1_at, up1_ne, pk_sub, pk_cpy_in, pk_cpy_out, Nat.zero_add, Nat.add_zero, Nat.zero_mul, Nat.sub_zero, Nat.add_sub_cancel_left, L1252]
  · intro N1 ⟨r1, r2, r3⟩
    have f0 : N1 p 2 = m := by rw [r1 p (by omega)]; exact hm
    simp (disch := omega) only [c_bnd, c_chk, c_lb0, c_lb1, c_lb2, c_lb3, L0, L1, L2, L10007, nI_add, pk_mul, ile_t, ile_f, ilt_t, ilt_f, ieq_t, ieq_f, c_rmI, setF_at, setF_ne, setF_setF, true_and, up1_at, up1_ne, pk_sub, pk_cpy_in, pk_cpy_out, Nat.zero_add, Nat.add_zero, Nat.zero_mul, Nat.sub_zero, Nat.add_sub_cancel_left, c_gfI h.ob, c_pfI h.ob, c_chkO h.ob, c_gfR h.ob h.rpool, c_ldI h.gpool, c_stI h.gpool, m_iAt, m_fAt, m_at, m_many h, L12, L13, L25, L144, L313, f0]
    refine mx_eq rfl ⟨fun x a b => ?_, fun i hi => ?_, ?_, fun z hz => ?_, fun z hz => ?_⟩
    · rw [setF_ne a]; exact r1 x (by omega)
    · rw [setF_at, up1_ne hi, r1 p (by omega)]
    · rw [setF_at, up1_at]
    · rw [setF_ne (by omega)]; exact r2 z hz
    · rw [setF_ne (by omega)]; exact r3 z hz
end MM
