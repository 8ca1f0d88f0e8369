/-! ===== the model: star, quotients, scaling, rows ===== -/
section MD
variable {Γ : zSh} {N : Mem} {R : Nat → Nat → Nat} {J : Nat → Nat → Int64} {p q x y n l : Nat} {A X Y : Au}
theorem m_stars (h : mS Γ R p) (hx : x < 26) (hq : q < 26) (hxq : x ≠ q) (hX : mAu N p x X) (okX : okA X) (hc : X.1 + 1 ≤ 12) : Mx (f_X7_stars Γ p (nI x) (nI q) (cS N R J)) (fun σ => ((), σ)) R J (fun N' => frP N N' p (313 * q) (313 * q + 313) ∧ mAu N' p q (staA X)) := by
  have hX12 : X.1 ≤ 12 := by omega
  have e0 := hX.1
  unfold f_X7_stars
  simp (disch := omega) only [c_bnd, c_chk, c_lb0, c_lb1, c_lb2, c_lb3, L0, L1, L2, L10007, nI_add, pk_mul, ile_t, ile_f, ilt_t, ilt_f, ieq_t, ieq_f, c_rmI, setF_at, setF_ne, setF_setF, true_and, up1_at, up1_ne, pk_sub, pk_cpy_in, pk_cpy_out, Nat.zero_add, Nat.add_zero, Nat.zero_mul, Nat.sub_zero, Nat.add_sub_cancel_left, c_gfI h.ob, c_pfI h.ob, c_chkO h.ob, c_gfR h.ob h.rpool, c_ldI h.gpool, c_stI h.gpool, m_iAt, m_fAt, m_at, m_many h, L12, L13, L25, L144, L313, e0]
  refine mx_bnd (pD.clears (A := staA X) h hq hc) ?_
  intro N1 d1
  refine mx_bnd (m_blocks h hx hq hxq hX hc (o := 1) (show 1 + X.1 ≤ X.1 + 1 by omega) ?_ d1) ?_
  · intro l i j hl hi hj
    show (if 1 + i = 0 then _ else if 1 + j = 0 then _ else _) = _
    rw [if_neg (by omega), if_neg (by omega), Nat.add_sub_cancel_left, Nat.add_sub_cancel_left]
  intro N2 d2
  simp (disch := omega) only [c_bnd, c_chk, c_lb0, c_lb1, c_lb2, c_lb3, L0, L1, L2, L10007, nI_add, pk_mul, ile_t, ile_f, ilt_t, ilt_f, ieq_t, ieq_f, c_rmI, setF_at, setF_ne, setF_setF, true_and, up1_at, up1_ne, pk_sub, pk_cpy_in, pk_cpy_out, Nat.zero_add, Nat.add_zero, Nat.zero_mul, Nat.sub_zero, Nat.add_sub_cancel_left, c_gfI h.ob, c_pfI h.ob, c_chkO h.ob, c_gfR h.ob h.rpool, c_ldI h.gpool, c_stI h.gpool, m_iAt, m_fAt, m_at, m_many h, L12, L13, L25, L144, L313]
  refine mx_lb0 (mx_for (fun l N' => pD N N' p q (staA X) (fun _ => True) (fun _ => True) (fun l' i j => (1 ≤ i ∧ 1 ≤ j) ∨ l' < l)) (s := 0) (e := 2) (by omega) (by omega) ?_ ?_ ?_) ?_
  · refine d2.put hc (fun z e => ?_) (fun i a b => ?_) (fun i a b => ?_) (fun l i j a1 a2 a3 a4 => ?_)
    · simp (disch := omega) only [c_bnd, c_chk, c_lb0, c_lb1, c_lb2, c_lb3, L0, L1, L2, L10007, nI_add, pk_mul, ile_t, ile_f, ilt_t, ilt_f, ieq_t, ieq_f, c_rmI, setF_at, setF_ne, setF_setF, true_and, up1_at, up1_ne, pk_sub, pk_cpy_in, pk_cpy_out, Nat.zero_add, Nat.add_zero, Nat.zero_mul, Nat.sub_zero, Nat.add_sub_cancel_left]
    · have a' : i < X.1 + 1 := a
      by_cases e : i = 0
      · subst e
        refine Or.inr ?_
        simp (disch := omega) only [c_bnd, c_chk, c_lb0, c_lb1, c_lb2, c_lb3, L0, L1, L2, L10007, nI_add, pk_mul, ile_t, ile_f, ilt_t, ilt_f, ieq_t, ieq_f, c_rmI, setF_at, setF_ne, setF_setF, true_and, up1_at, up1_ne, pk_sub, pk_cpy_in, pk_cpy_out, Nat.zero_add, Nat.add_zero, Nat.zero_mul, Nat.sub_zero, Nat.add_sub_cancel_left]
        rfl
      · refine Or.inl ⟨if_neg e, ?_⟩
        simp (disch := omega) only [c_bnd, c_chk, c_lb0, c_lb1, c_lb2, c_lb3, L0, L1, L2, L10007, nI_add, pk_mul, ile_t, ile_f, ilt_t, ilt_f, ieq_t, ieq_f, c_rmI, setF_at, setF_ne, setF_setF, true_and, up1_at, up1_ne, pk_sub, pk_cpy_in, pk_cpy_out, Nat.zero_add, Nat.add_zero, Nat.zero_mul, Nat.sub_zero, Nat.add_sub_cancel_left]
    · have a' : i < X.1 + 1 := a
      by_cases e : i = 0
      · subst e
        refine Or.inr ?_
        simp (disch := omega) only [c_bnd, c_chk, c_lb0, c_lb1, c_lb2, c_lb3, L0, L1, L2, L10007, nI_add, pk_mul, ile_t, ile_f, ilt_t, ilt_f, ieq_t, ieq_f, c_rmI, setF_at, setF_ne, setF_setF, true_and, up1_at, up1_ne, pk_sub, pk_cpy_in, pk_cpy_out, Nat.zero_add, Nat.add_zero, Nat.zero_mul, Nat.sub_zero, Nat.add_sub_cancel_left]
        rfl
      · refine Or.inl ⟨if_neg e, ?_⟩
        simp (disch := omega) only [c_bnd, c_chk, c_lb0, c_lb1, c_lb2, c_lb3, L0, L1, L2, L10007, nI_add, pk_mul, ile_t, ile_f, ilt_t, ilt_f, ieq_t, ieq_f, c_rmI, setF_at, setF_ne, setF_setF, true_and, up1_at, up1_ne, pk_sub, pk_cpy_in, pk_cpy_out, Nat.zero_add, Nat.add_zero, Nat.zero_mul, Nat.sub_zero, Nat.add_sub_cancel_left]
    · have a2' : i < X.1 + 1 := a2
      have a3' : j < X.1 + 1 := a3
      refine Or.inl ⟨Or.inr (by omega), ?_⟩
      simp (disch := omega) only [c_bnd, c_chk, c_lb0, c_lb1, c_lb2, c_lb3, L0, L1, L2, L10007, nI_add, pk_mul, ile_t, ile_f, ilt_t, ilt_f, ieq_t, ieq_f, c_rmI, setF_at, setF_ne, setF_setF, true_and, up1_at, up1_ne, pk_sub, pk_cpy_in, pk_cpy_out, Nat.zero_add, Nat.add_zero, Nat.zero_mul, Nat.sub_zero, Nat.add_sub_cancel_left]
  · intro l N3 _ hl d3
    show Mx (f_X7_stars_B43 _ _ _ _ _ _) _ _ _ _
    unfold f_X7_stars_B43
    simp (disch := omega) only [c_bnd, c_chk, c_lb0, c_lb1, c_lb2, c_lb3, L0, L1, L2, L10007, nI_add, pk_mul, ile_t, ile_f, ilt_t, ilt_f, ieq_t, ieq_f, c_rmI, setF_at, setF_ne, setF_setF, true_and, up1_at, up1_ne, pk_sub, pk_cpy_in, pk_cpy_out, Nat.zero_add, Nat.add_zero, Nat.zero_mul, Nat.sub_zero, Nat.add_sub_cancel_left]
    refine mx_lb1 (mx_for1 (fun c => nI (nsum c (fun k => X.2.1 k * outA X l k) % 10007)) (fun c N' => pD N N' p q (staA X) (fun _ => True) (fun _ => True) (fun l' i j => ((1 ≤ i ∧ 1 ≤ j) ∨ l' < l) ∨ l' = l ∧ (i = 0 ∧ 1 ≤ j ∧ j < c + 1 ∨ j = 0 ∧ 1 ≤ i ∧ i < c + 1))) (s := 0) (e := X.1) (by omega) (by omega) (d3.mono (fun i _ e => e) (fun i _ e => e) (fun l i j _ _ _ e => by omega)) ?_ ?_) ?_
    · intro c N4 _ hcc d4
      have hX4 := hX.fr hX12 d4.1 (by omega)
      have f1 := hX4.1
      have f2 := (hX4.2 c hcc).1
      have f3 := pmul (okX c hcc).1 (outA_lt (A := X) (l := l) (i := c))
      have f4 := mlt (nsum c (fun k => X.2.1 k * outA X l k))
      have f5 : ∀ v, mAu (setF N4 (p + 1) (up1 (N4 (p + 1)) (313 * q + 25 + 144 * l + 12 * 0 + (1 + c)) v)) p x X := fun v => hX4.fr hX12 (frP.set (Nat.le_refl _) (Nat.lt_succ_self _)) (by omega)
      show Mx (f_X7_stars_B54 _ _ _ _ _ _ _ _) _ _ _ _
      unfold f_X7_stars_B54
      simp (disch := omega) only [c_bnd, c_chk, c_lb0, c_lb1, c_lb2, c_lb3, L0, L1, L2, L10007, nI_add, pk_mul, ile_t, ile_f, ilt_t, ilt_f, ieq_t, ieq_f, c_rmI, setF_at, setF_ne, setF_setF, true_and, up1_at, up1_ne, pk_sub, pk_cpy_in, pk_cpy_out, Nat.zero_add, Nat.add_zero, Nat.zero_mul, Nat.sub_zero, Nat.add_sub_cancel_left, c_gfI h.ob, c_pfI h.ob, c_chkO h.ob, c_gfR h.ob h.rpool, c_ldI h.gpool, c_stI h.gpool, m_iAt, m_fAt, m_at, m_many h, L12, L13, L25, L144, L313, f1, f2, m_out h hx hX4 hX12 okX hl hcc, m_into h hx hX4 hX12 okX hl hcc, m_out h hx (f5 _) hX12 okX hl hcc, mod_acc]
      refine mx_eq rfl ?_
      refine d4.put hc (fun z e => ?_) (fun i a b => ?_) (fun i a b => ?_) (fun l' i j a1 a2 a3 a4 => ?_)
      · simp (disch := omega) only [c_bnd, c_chk, c_lb0, c_lb1, c_lb2, c_lb3, L0, L1, L2, L10007, nI_add, pk_mul, ile_t, ile_f, ilt_t, ilt_f, ieq_t, ieq_f, c_rmI, setF_at, setF_ne, setF_setF, true_and, up1_at, up1_ne, pk_sub, pk_cpy_in, pk_cpy_out, Nat.zero_add, Nat.add_zero, Nat.zero_mul, Nat.sub_zero, Nat.add_sub_cancel_left]
      · have a' : i < X.1 + 1 := a
        refine Or.inl ⟨trivial, ?_⟩
        simp (disch := omega) only [c_bnd, c_chk, c_lb0, c_lb1, c_lb2, c_lb3, L0, L1, L2, L10007, nI_add, pk_mul, ile_t, ile_f, ilt_t, ilt_f, ieq_t, ieq_f, c_rmI, setF_at, setF_ne, setF_setF, true_and, up1_at, up1_ne, pk_sub, pk_cpy_in, pk_cpy_out, Nat.zero_add, Nat.add_zero, Nat.zero_mul, Nat.sub_zero, Nat.add_sub_cancel_left]
      · have a' : i < X.1 + 1 := a
        refine Or.inl ⟨trivial, ?_⟩
        simp (disch := omega) only [c_bnd, c_chk, c_lb0, c_lb1, c_lb2, c_lb3, L0, L1, L2, L10007, nI_add, pk_mul, ile_t, ile_f, ilt_t, ilt_f, ieq_t, ieq_f, c_rmI, setF_at, setF_ne, setF_setF, true_and, up1_at, up1_ne, pk_sub, pk_cpy_in, pk_cpy_out, Nat.zero_add, Nat.add_zero, Nat.zero_mul, Nat.sub_zero, Nat.add_sub_cancel_left]
      · have a2' : i < X.1 + 1 := a2
        have a3' : j < X.1 + 1 := a3
        by_cases e : l' = l ∧ i = 0 ∧ j = 1 + c
        · obtain ⟨rfl, rfl, rfl⟩ := e
          refine Or.inr ?_
          rw [staA_0j, up1_ne (by omega), up1_at]
        · by_cases e2 : l' = l ∧ i = 1 + c ∧ j = 0
          · obtain ⟨rfl, rfl, rfl⟩ := e2
            refine Or.inr ?_
            rw [staA_i0]
            exact up1_at
          · refine Or.inl ⟨by omega, ?_⟩
            rw [up1_ne (by omega), up1_ne (by omega)]
    · intro N4 d4
      have f1 := (hX.fr hX12 d4.1 (by omega)).1
      show f_X7_stars_B54 _ _ _ _ _ _ _ _ = _
      unfold f_X7_stars_B54
      simp (disch := omega) only [c_bnd, c_chk, c_lb0, c_lb1, c_lb2, c_lb3, L0, L1, L2, L10007, nI_add, pk_mul, ile_t, ile_f, ilt_t, ilt_f, ieq_t, ieq_f, c_rmI, setF_at, setF_ne, setF_setF, true_and, up1_at, up1_ne, pk_sub, pk_cpy_in, pk_cpy_out, Nat.zero_add, Nat.add_zero, Nat.zero_mul, Nat.sub_zero, Nat.add_sub_cancel_left, c_gfI h.ob, c_pfI h.ob, c_chkO h.ob, c_gfR h.ob h.rpool, c_ldI h.gpool, c_stI h.gpool, m_iAt, m_fAt, m_at, m_many h, L12, L13, L25, L144, L313, f1]
    · intro N4 d4
      simp (disch := omega) only [c_bnd, c_chk, c_lb0, c_lb1, c_lb2, c_lb3, L0, L1, L2, L10007, nI_add, pk_mul, ile_t, ile_f, ilt_t, ilt_f, ieq_t, ieq_f, c_rmI, setF_at, setF_ne, setF_setF, true_and, up1_at, up1_ne, pk_sub, pk_cpy_in, pk_cpy_out, Nat.zero_add, Nat.add_zero, Nat.zero_mul, Nat.sub_zero, Nat.add_sub_cancel_left, c_gfI h.ob, c_pfI h.ob, c_chkO h.ob, c_gfR h.ob h.rpool, c_ldI h.gpool, c_stI h.gpool, m_iAt, m_fAt, m_at, m_many h, L12, L13, L25, L144, L313]
      refine mx_eq rfl ?_
      refine d4.put hc (fun z e => ?_) (fun i a b => ?_) (fun i a b => ?_) (fun l' i j a1 a2 a3 a4 => ?_)
      · simp (disch := omega) only [c_bnd, c_chk, c_lb0, c_lb1, c_lb2, c_lb3, L0, L1, L2, L10007, nI_add, pk_mul, ile_t, ile_f, ilt_t, ilt_f, ieq_t, ieq_f, c_rmI, setF_at, setF_ne, setF_setF, true_and, up1_at, up1_ne, pk_sub, pk_cpy_in, pk_cpy_out, Nat.zero_add, Nat.add_zero, Nat.zero_mul, Nat.sub_zero, Nat.add_sub_cancel_left]
      · have a' : i < X.1 + 1 := a
        refine Or.inl ⟨trivial, ?_⟩
        simp (disch := omega) only [c_bnd, c_chk, c_lb0, c_lb1, c_lb2, c_lb3, L0, L1, L2, L10007, nI_add, pk_mul, ile_t, ile_f, ilt_t, ilt_f, ieq_t, ieq_f, c_rmI, setF_at, setF_ne, setF_setF, true_and, up1_at, up1_ne, pk_sub, pk_cpy_in, pk_cpy_out, Nat.zero_add, Nat.add_zero, Nat.zero_mul, Nat.sub_zero, Nat.add_sub_cancel_left]
      · have a' : i < X.1 + 1 := a
        refine Or.inl ⟨trivial, ?_⟩
        simp (disch := omega) only [c_bnd, c_chk, c_lb0, c_lb1, c_lb2, c_lb3, L0, L1, L2, L10007, nI_add, pk_mul, ile_t, ile_f, ilt_t, ilt_f, ieq_t, ieq_f, c_rmI, setF_at, setF_ne, setF_setF, true_and, up1_at, up1_ne, pk_sub, pk_cpy_in, pk_cpy_out, Nat.zero_add, Nat.add_zero, Nat.zero_mul, Nat.sub_zero, Nat.add_sub_cancel_left]
      · have a2' : i < X.1 + 1 := a2
        have a3' : j < X.1 + 1 := a3
        by_cases e : l' = l ∧ i = 0 ∧ j = 0
        · obtain ⟨rfl, rfl, rfl⟩ := e
          refine Or.inr ?_
          rw [show 313 * q + 25 + 144 * l' + 12 * 0 + 0 = 313 * q + 25 + 144 * l' by omega]
          exact up1_at
        · refine Or.inl ⟨by omega, ?_⟩
          exact up1_ne (by omega)
  · intro N3 _
    show f_X7_stars_B43 _ _ _ _ _ _ = _
    unfold f_X7_stars_B43
    simp (disch := omega) only [c_bnd, c_chk, c_lb0, c_lb1, c_lb2, c_lb3, L0, L1, L2, L10007, nI_add, pk_mul, ile_t, ile_f, ilt_t, ilt_f, ieq_t, ieq_f, c_rmI, setF_at, setF_ne, setF_setF, true_and, up1_at, up1_ne, pk_sub, pk_cpy_in, pk_cpy_out, Nat.zero_add, Nat.add_zero, Nat.zero_mul, Nat.sub_zero, Nat.add_sub_cancel_left]
  · intro N3 d3
    exact mx_eq rfl ⟨d3.1, d3.toAu (fun i _ => trivial) (fun i _ => trivial) (fun l i j a _ _ => Or.inr a)⟩
/-- the row of numbers with which an automaton begins, changed in its place -/
theorem m_quo (h : mS Γ R p) (hx : x < 26) (hx5 : x ≠ 5) (hX : mAu N p x X) (hX12 : X.1 ≤ 12) (okX : okA X) (hl : l < 2) : Mx (f_X7_derives_L89 Γ p (nI x) (nI (l + 3)) (cS N R J)) (fun σ => ((), σ)) R J (fun N' => frP N N' p (313 * 5) (313 * 5 + 313) ∧ mAu N' p 5 (quoA X l)) := by
  unfold f_X7_derives_L89
  simp (disch := omega) only [c_bnd, c_chk, c_lb0, c_lb1, c_lb2, c_lb3, L0, L1, L2, L10007, nI_add, pk_mul, ile_t, ile_f, ilt_t, ilt_f, ieq_t, ieq_f, c_rmI, setF_at, setF_ne, setF_setF, true_and, up1_at, up1_ne, pk_sub, pk_cpy_in, pk_cpy_out, Nat.zero_add, Nat.add_zero, Nat.zero_mul, Nat.sub_zero, Nat.add_sub_cancel_left, c_gfI h.ob, c_pfI h.ob, c_chkO h.ob, c_gfR h.ob h.rpool, c_ldI h.gpool, c_stI h.gpool, m_iAt, m_fAt, m_at, m_many h, L12, L13, L25, L144, L313, L5]
  refine mx_bnd (m_copies h hx (by omega) hx5 hX hX12) ?_
  intro N1 ⟨a1, a2⟩
  have d1 : pD N N1 p 5 (quoA X l) (fun _ => False) (fun _ => True) (fun _ _ _ => True) := ⟨a1, a2.1, fun i _ e => e.elim, fun i a _ => (a2.2 i a).2.1, fun l i j b c d _ => (a2.2 i c).2.2 j l d b⟩
  refine mx_lb0 (mx_for (fun c N' => pD N N' p 5 (quoA X l) (fun i => i < c) (fun _ => True) (fun _ _ _ => True)) (s := 0) (e := X.1) (by omega) (by omega) (d1.mono (fun i _ e => absurd e (by omega)) (fun i _ e => e) (fun l i j _ _ _ e => e)) ?_ ?_) ?_
  · intro c N2 _ hc d2
    have hX2 := hX.fr hX12 d2.1 (by omega)
    have f0 := hX2.1
    show Mx (f_X7_derives_B97 _ _ _ _ _ _) _ _ _ _
    unfold f_X7_derives_B97
    rw [L3, L5, pk_sub (by omega), Nat.add_sub_cancel]
    simp (disch := omega) only [c_bnd, c_chk, c_lb0, c_lb1, c_lb2, c_lb3, L0, L1, L2, L10007, nI_add, pk_mul, ile_t, ile_f, ilt_t, ilt_f, ieq_t, ieq_f, c_rmI, setF_at, setF_ne, setF_setF, true_and, up1_at, up1_ne, pk_sub, pk_cpy_in, pk_cpy_out, Nat.zero_add, Nat.add_zero, Nat.zero_mul, Nat.sub_zero, Nat.add_sub_cancel_left, c_gfI h.ob, c_pfI h.ob, c_chkO h.ob, c_gfR h.ob h.rpool, c_ldI h.gpool, c_stI h.gpool, m_iAt, m_fAt, m_at, m_many h, L12, L13, L25, L144, L313, f0, m_into h hx hX2 hX12 okX hl hc]
    refine mx_eq rfl ?_
    refine d2.put hX12 (fun z e => ?_) (fun i a b => ?_) (fun i a b => ?_) (fun l' i j a1 a2 a3 a4 => ?_)
    · simp (disch := omega) only [c_bnd, c_chk, c_lb0, c_lb1, c_lb2, c_lb3, L0, L1, L2, L10007, nI_add, pk_mul, ile_t, ile_f, ilt_t, ilt_f, ieq_t, ieq_f, c_rmI, setF_at, setF_ne, setF_setF, true_and, up1_at, up1_ne, pk_sub, pk_cpy_in, pk_cpy_out, Nat.zero_add, Nat.add_zero, Nat.zero_mul, Nat.sub_zero, Nat.add_sub_cancel_left]
    · have a' : i < X.1 := a
      by_cases e : i = c
      · subst e
        refine Or.inr ?_
        simp (disch := omega) only [c_bnd, c_chk, c_lb0, c_lb1, c_lb2, c_lb3, L0, L1, L2, L10007, nI_add, pk_mul, ile_t, ile_f, ilt_t, ilt_f, ieq_t, ieq_f, c_rmI, setF_at, setF_ne, setF_setF, true_and, up1_at, up1_ne, pk_sub, pk_cpy_in, pk_cpy_out, Nat.zero_add, Nat.add_zero, Nat.zero_mul, Nat.sub_zero, Nat.add_sub_cancel_left]
        rfl
      · refine Or.inl ⟨by omega, ?_⟩
        simp (disch := omega) only [c_bnd, c_chk, c_lb0, c_lb1, c_lb2, c_lb3, L0, L1, L2, L10007, nI_add, pk_mul, ile_t, ile_f, ilt_t, ilt_f, ieq_t, ieq_f, c_rmI, setF_at, setF_ne, setF_setF, true_and, up1_at, up1_ne, pk_sub, pk_cpy_in, pk_cpy_out, Nat.zero_add, Nat.add_zero, Nat.zero_mul, Nat.sub_zero, Nat.add_sub_cancel_left]
    · have a' : i < X.1 := a
      refine Or.inl ⟨trivial, ?_⟩
      simp (disch := omega) only [c_bnd, c_chk, c_lb0, c_lb1, c_lb2, c_lb3, L0, L1, L2, L10007, nI_add, pk_mul, ile_t, ile_f, ilt_t, ilt_f, ieq_t, ieq_f, c_rmI, setF_at, setF_ne, setF_setF, true_and, up1_at, up1_ne, pk_sub, pk_cpy_in, pk_cpy_out, Nat.zero_add, Nat.add_zero, Nat.zero_mul, Nat.sub_zero, Nat.add_sub_cancel_left]
    · have a2' : i < X.1 := a2
      have a3' : j < X.1 := a3
      refine Or.inl ⟨trivial, ?_⟩
      simp (disch := omega) only [c_bnd, c_chk, c_lb0, c_lb1, c_lb2, c_lb3, L0, L1, L2, L10007, nI_add, pk_mul, ile_t, ile_f, ilt_t, ilt_f, ieq_t, ieq_f, c_rmI, setF_at, setF_ne, setF_setF, true_and, up1_at, up1_ne, pk_sub, pk_cpy_in, pk_cpy_out, Nat.zero_add, Nat.add_zero, Nat.zero_mul, Nat.sub_zero, Nat.add_sub_cancel_left]
  · intro N2 d2
    have f0 := (hX.fr hX12 d2.1 (by omega)).1
    show f_X7_derives_B97 _ _ _ _ _ _ = _
    unfold f_X7_derives_B97
    simp (disch := omega) only [c_bnd, c_chk, c_lb0, c_lb1, c_lb2, c_lb3, L0, L1, L2, L10007, nI_add, pk_mul, ile_t, ile_f, ilt_t, ilt_f, ieq_t, ieq_f, c_rmI, setF_at, setF_ne, setF_setF, true_and, up1_at, up1_ne, pk_sub, pk_cpy_in, pk_cpy_out, Nat.zero_add, Nat.add_zero, Nat.zero_mul, Nat.sub_zero, Nat.add_sub_cancel_left, c_gfI h.ob, c_pfI h.ob, c_chkO h.ob, c_gfR h.ob h.rpool, c_ldI h.gpool, c_stI h.gpool, m_iAt, m_fAt, m_at, m_many h, L12, L13, L25, L144, L313, f0]
  · intro N2 d2
    unfold f_X7_derives_L131
    exact mx_eq rfl ⟨d2.1, d2.toAu (fun i a => a) (fun i _ => trivial) (fun l i j _ _ _ => trivial)⟩
theorem m_scaleLoop (h : mS Γ R p) (hx : x < 26) (hX : mAu N p x X) (hX12 : X.1 ≤ 12) (okX : okA X) {c : Nat} (hc : c < 10007) : Mx (loopM (fun q => f_X7_scale_B24 Γ p (nI x) (nI c) q.1 q.2) FUEL (nI 0, cS N R J)) (fun σ => σ) R J (fun N' => frP N N' p (313 * x) (313 * x + 313) ∧ mAu N' p x (scaA X c)) := by
  have d1 : pD N N p x (scaA X c) (fun _ => False) (fun _ => True) (fun _ _ _ => True) := ⟨frP.refl, hX.1, fun i _ e => e.elim, fun i a _ => (hX.2 i a).2.1, fun l i j b c d _ => (hX.2 i c).2.2 j l d b⟩
  refine mx_mono (mx_for (fun k N' => pD N N' p x (scaA X c) (fun i => i < k) (fun _ => True) (fun _ _ _ => True) ∧ ∀ i, i < X.1 → k ≤ i → N' (p + 1) (313 * x + 1 + i) = X.2.1 i) (s := 0) (e := X.1) (by omega) (by omega) ⟨d1.mono (fun i _ e => absurd e (by omega)) (fun i _ e => e) (fun l i j _ _ _ e => e), fun i a _ => (hX.2 i a).1⟩ ?_ ?_) ?_
  · intro k N2 _ hk ⟨d2, q2⟩
    have f0 : N2 (p + 1) (313 * x) = X.1 := d2.2.1
    have f1 := q2 k hk (Nat.le_refl k)
    have f2 := pmul (okX k hk).1 hc
    show Mx (f_X7_scale_B24 _ _ _ _ _ _) _ _ _ _
    unfold f_X7_scale_B24
    simp (disch := omega) only [c_bnd, c_chk, c_lb0, c_lb1, c_lb2, c_lb3, L0, L1, L2, L10007, nI_add, pk_mul, ile_t, ile_f, ilt_t, ilt_f, ieq_t, ieq_f, c_rmI, setF_at, setF_ne, setF_setF, true_and, up1_at, up1_ne, pk_sub, pk_cpy_in, pk_cpy_out, Nat.zero_add, Nat.add_zero, Nat.zero_mul, Nat.sub_zero, Nat.add_sub_cancel_left, c_gfI h.ob, c_pfI h.ob, c_chkO h.ob, c_gfR h.ob h.rpool, c_ldI h.gpool, c_stI h.gpool, m_iAt, m_fAt, m_at, m_many h, L12, L13, L25, L144, L313, f0, f1]
    refine mx_eq rfl ?_
    refine ⟨d2.put hX12 (fun z e => ?_) (fun i a b => ?_) (fun i a b => ?_) (fun l' i j a1 a2 a3 a4 => ?_), fun i a b => ?_⟩
    · simp (disch := omega) only [c_bnd, c_chk, c_lb0, c_lb1, c_lb2, c_lb3, L0, L1, L2, L10007, nI_add, pk_mul, ile_t, ile_f, ilt_t, ilt_f, ieq_t, ieq_f, c_rmI, setF_at, setF_ne, setF_setF, true_and, up1_at, up1_ne, pk_sub, pk_cpy_in, pk_cpy_out, Nat.zero_add, Nat.add_zero, Nat.zero_mul, Nat.sub_zero, Nat.add_sub_cancel_left]
    · have a' : i < X.1 := a
      by_cases e : i = k
      · subst e
        refine Or.inr ?_
        simp (disch := omega) only [c_bnd, c_chk, c_lb0, c_lb1, c_lb2, c_lb3, L0, L1, L2, L10007, nI_add, pk_mul, ile_t, ile_f, ilt_t, ilt_f, ieq_t, ieq_f, c_rmI, setF_at, setF_ne, setF_setF, true_and, up1_at, up1_ne, pk_sub, pk_cpy_in, pk_cpy_out, Nat.zero_add, Nat.add_zero, Nat.zero_mul, Nat.sub_zero, Nat.add_sub_cancel_left]
        rfl
      · refine Or.inl ⟨by omega, ?_⟩
        simp (disch := omega) only [c_bnd, c_chk, c_lb0, c_lb1, c_lb2, c_lb3, L0, L1, L2, L10007, nI_add, pk_mul, ile_t, ile_f, ilt_t, ilt_f, ieq_t, ieq_f, c_rmI, setF_at, setF_ne, setF_setF, true_and, up1_at, up1_ne, pk_sub, pk_cpy_in, pk_cpy_out, Nat.zero_add, Nat.add_zero, Nat.zero_mul, Nat.sub_zero, Nat.add_sub_cancel_left]
    · have a' : i < X.1 := a
      refine Or.inl ⟨trivial, ?_⟩
      simp (disch := omega) only [c_bnd, c_chk, c_lb0, c_lb1, c_lb2, c_lb3, L0, L1, L2, L10007, nI_add, pk_mul, ile_t, ile_f, ilt_t, ilt_f, ieq_t, ieq_f, c_rmI, setF_at, setF_ne, setF_setF, true_and, up1_at, up1_ne, pk_sub, pk_cpy_in, pk_cpy_out, Nat.zero_add, Nat.add_zero, Nat.zero_mul, Nat.sub_zero, Nat.add_sub_cancel_left]
    · have a2' : i < X.1 := a2
      have a3' : j < X.1 := a3
      refine Or.inl ⟨trivial, ?_⟩
      simp (disch := omega) only [c_bnd, c_chk, c_lb0, c_lb1, c_lb2, c_lb3, L0, L1, L2, L10007, nI_add, pk_mul, ile_t, ile_f, ilt_t, ilt_f, ieq_t, ieq_f, c_rmI, setF_at, setF_ne, setF_setF, true_and, up1_at, up1_ne, pk_sub, pk_cpy_in, pk_cpy_out, Nat.zero_add, Nat.add_zero, Nat.zero_mul, Nat.sub_zero, Nat.add_sub_cancel_left]
    · simp (disch := omega) only [c_bnd, c_chk, c_lb0, c_lb1, c_lb2, c_lb3, L0, L1, L2, L10007, nI_add, pk_mul, ile_t, ile_f, ilt_t, ilt_f, ieq_t, ieq_f, c_rmI, setF_at, setF_ne, setF_setF, true_and, up1_at, up1_ne, pk_sub, pk_cpy_in, pk_cpy_out, Nat.zero_add, Nat.add_zero, Nat.zero_mul, Nat.sub_zero, Nat.add_sub_cancel_left]
      exact q2 i a (by omega)
  · intro N2 ⟨d2, q2⟩
    have f0 : N2 (p + 1) (313 * x) = X.1 := d2.2.1
    show f_X7_scale_B24 _ _ _ _ _ _ = _
    unfold f_X7_scale_B24
    simp (disch := omega) only [c_bnd, c_chk, c_lb0, c_lb1, c_lb2, c_lb3, L0, L1, L2, L10007, nI_add, pk_mul, ile_t, ile_f, ilt_t, ilt_f, ieq_t, ieq_f, c_rmI, setF_at, setF_ne, setF_setF, true_and, up1_at, up1_ne, pk_sub, pk_cpy_in, pk_cpy_out, Nat.zero_add, Nat.add_zero, Nat.zero_mul, Nat.sub_zero, Nat.add_sub_cancel_left, c_gfI h.ob, c_pfI h.ob, c_chkO h.ob, c_gfR h.ob h.rpool, c_ldI h.gpool, c_stI h.gpool, m_iAt, m_fAt, m_at, m_many h, L12, L13, L25, L144, L313, f0]
  · intro N2 ⟨d2, q2⟩
    exact ⟨d2.1, d2.toAu (fun i a => a) (fun i _ => trivial) (fun l i j _ _ _ => trivial)⟩
/-- the first row laid -/
theorem m_lays (h : mS Γ R p) (hx : x < 26) (hX : mAu N p x X) (hX12 : X.1 ≤ 12) {o : Nat} (ho : o ≤ 12) : Mx (f_X7_laysInitial Γ p (nI x) (nI o) (cS N R J)) (fun σ => ((), σ)) R J (fun N' => frA N N' (p + 3) (p + 4) ∧ ∀ z, N' (p + 3) z = if o ≤ z ∧ z < o + X.1 then X.2.1 (z - o) else N (p + 3) z) := by
  unfold f_X7_laysInitial
  rw [L0]
  refine mx_lb0 (mx_for (fun c N' => frA N N' (p + 3) (p + 4) ∧ ∀ z, N' (p + 3) z = if o ≤ z ∧ z < o + c then X.2.1 (z - o) else N (p + 3) z) (s := 0) (e := X.1) (by omega) (by omega) ⟨frA.refl, fun z => by rw [if_neg (by omega)]⟩ ?_ ?_) ?_
  · intro c N1 _ hc ⟨p1, p2⟩
    have hX1 := hX.frA p1 (by omega)
    have f0 := hX1.1
    have f1 := (hX1.2 c hc).1
    show Mx (f_X7_laysInitial_B2 _ _ _ _ _ _) _ _ _ _
    unfold f_X7_laysInitial_B2
    simp (disch := omega) only [c_bnd, c_chk, c_lb0, c_lb1, c_lb2, c_lb3, L0, L1, L2, L10007, nI_add, pk_mul, ile_t, ile_f, ilt_t, ilt_f, ieq_t, ieq_f, c_rmI, setF_at, setF_ne, setF_setF, true_and, up1_at, up1_ne, pk_sub, pk_cpy_in, pk_cpy_out, Nat.zero_add, Nat.add_zero, Nat.zero_mul, Nat.sub_zero, Nat.add_sub_cancel_left, c_gfI h.ob, c_pfI h.ob, c_chkO h.ob, c_gfR h.ob h.rpool, c_ldI h.gpool, c_stI h.gpool, m_iAt, m_fAt, m_at, m_many h, L12, L13, L25, L144, L313, c_gfR h.ob h.rrow, c_ldI h.grow, c_stI h.grow, f0, f1]
    refine mx_eq rfl ?_
    refine ⟨p1.trans (frA.set (by omega) (by omega)), fun z => ?_⟩
    rw [setF_at]
    by_cases e : z = o + c
    · subst e
      simp (disch := omega) only [c_bnd, c_chk, c_lb0, c_lb1, c_lb2, c_lb3, L0, L1, L2, L10007, nI_add, pk_mul, ile_t, ile_f, ilt_t, ilt_f, ieq_t, ieq_f, c_rmI, setF_at, setF_ne, setF_setF, true_and, up1_at, up1_ne, pk_sub, pk_cpy_in, pk_cpy_out, Nat.zero_add, Nat.add_zero, Nat.zero_mul, Nat.sub_zero, Nat.add_sub_cancel_left]
      rw [if_pos (by omega)]
    · simp (disch := omega) only [c_bnd, c_chk, c_lb0, c_lb1, c_lb2, c_lb3, L0, L1, L2, L10007, nI_add, pk_mul, ile_t, ile_f, ilt_t, ilt_f, ieq_t, ieq_f, c_rmI, setF_at, setF_ne, setF_setF, true_and, up1_at, up1_ne, pk_sub, pk_cpy_in, pk_cpy_out, Nat.zero_add, Nat.add_zero, Nat.zero_mul, Nat.sub_zero, Nat.add_sub_cancel_left]
      rw [p2 z]
      by_cases e2 : o ≤ z ∧ z < o + c
      · rw [if_pos e2, if_pos (by omega)]
      · rw [if_neg e2, if_neg (by omega)]
  · intro N1 ⟨p1, p2⟩
    have f0 := (hX.frA p1 (by omega)).1
    show f_X7_laysInitial_B2 _ _ _ _ _ _ = _
    unfold f_X7_laysInitial_B2
    simp (disch := omega) only [c_bnd, c_chk, c_lb0, c_lb1, c_lb2, c_lb3, L0, L1, L2, L10007, nI_add, pk_mul, ile_t, ile_f, ilt_t, ilt_f, ieq_t, ieq_f, c_rmI, setF_at, setF_ne, setF_setF, true_and, up1_at, up1_ne, pk_sub, pk_cpy_in, pk_cpy_out, Nat.zero_add, Nat.add_zero, Nat.zero_mul, Nat.sub_zero, Nat.add_sub_cancel_left, c_gfI h.ob, c_pfI h.ob, c_chkO h.ob, c_gfR h.ob h.rpool, c_ldI h.gpool, c_stI h.gpool, m_iAt, m_fAt, m_at, m_many h, L12, L13, L25, L144, L313, f0]
  · intro N1 q
    exact mx_eq rfl q
theorem m_ends (h : mS Γ R p) (hx : x < 26) (hX : mAu N p x X) (hX12 : X.1 ≤ 12) (ok : okA X) {o : Nat} (ho : o ≤ 12) (b : ∀ i, i < X.1 → N (p + 3) (o + i) < 10007) : f_X7_ends Γ p (nI x) (nI o) (cS N R J) = some (nI (wtA X (fun i => N (p + 3) (o + i))), cS N R J) := by
  have e0 := hX.1
  unfold f_X7_ends
  rw [L0]
  refine (lb1_of (loop_for (fun k => (nI (nsum k (fun j => N (p + 3) (o + j) * X.2.2.1 j) % 10007), nI k, cS N R J)) (nI (wtA X (fun i => N (p + 3) (o + i))), cS N R J) X.1 rfl (by unfold FUEL; omega) ?_ ?_)).trans rfl
  · intro k hk
    have e1 := pmul (b k hk) (ok k hk).2.1
    have e2 := mlt (nsum k (fun j => N (p + 3) (o + j) * X.2.2.1 j))
    have e5 := (hX.2 k hk).2.1
    show f_X7_ends_B5 _ _ _ _ _ _ _ = _
    unfold f_X7_ends_B5
    simp (disch := omega) only [c_bnd, c_chk, c_lb0, c_lb1, c_lb2, c_lb3, L0, L1, L2, L10007, nI_add, pk_mul, ile_t, ile_f, ilt_t, ilt_f, ieq_t, ieq_f, c_rmI, setF_at, setF_ne, setF_setF, true_and, up1_at, up1_ne, pk_sub, pk_cpy_in, pk_cpy_out, Nat.zero_add, Nat.add_zero, Nat.zero_mul, Nat.sub_zero, Nat.add_sub_cancel_left, c_gfI h.ob, c_pfI h.ob, c_chkO h.ob, c_gfR h.ob h.rpool, c_ldI h.gpool, c_stI h.gpool, m_iAt, m_fAt, m_at, m_many h, L12, L13, L25, L144, L313, c_gfR h.ob h.rrow, c_ldI h.grow, c_stI h.grow, e0, e5, mod_acc]
    rfl
  · show f_X7_ends_B5 _ _ _ _ _ _ _ = _
    unfold f_X7_ends_B5
    simp (disch := omega) only [c_bnd, c_chk, c_lb0, c_lb1, c_lb2, c_lb3, L0, L1, L2, L10007, nI_add, pk_mul, ile_t, ile_f, ilt_t, ilt_f, ieq_t, ieq_f, c_rmI, setF_at, setF_ne, setF_setF, true_and, up1_at, up1_ne, pk_sub, pk_cpy_in, pk_cpy_out, Nat.zero_add, Nat.add_zero, Nat.zero_mul, Nat.sub_zero, Nat.add_sub_cancel_left, c_gfI h.ob, c_pfI h.ob, c_chkO h.ob, c_gfR h.ob h.rpool, c_ldI h.gpool, c_stI h.gpool, m_iAt, m_fAt, m_at, m_many h, L12, L13, L25, L144, L313, e0]
    rfl
/-- a step by a letter, or by both -/
def stpB (A : Au) (l : Nat) (v : Nat → Nat) (j : Nat) : Nat := if l = 2 then nsum A.1 (fun i => v i * (A.2.2.2 0 i j + A.2.2.2 1 i j)) % 10007 else stpA A l v j
theorem stpB_lt {A : Au} {l j : Nat} {v : Nat → Nat} : stpB A l v j < 10007 := by
  unfold stpB
  by_cases e : l = 2
  · rw [if_pos e]; exact mlt _
  · rw [if_neg e]; exact mlt _
theorem m_passes (h : mS Γ R p) (hx : x < 26) (hX : mAu N p x X) (hX12 : X.1 ≤ 12) (ok : okA X) {o l : Nat} (ho : o ≤ 12) (hl : l < 3) (b : ∀ i, i < X.1 → N (p + 3) (o + i) < 10007) : Mx (f_X7_passes Γ p (nI x) (nI o) (nI l) (cS N R J)) (fun σ => ((), σ)) R J (fun N' => frA N N' (p + 3) (p + 5) ∧ ∀ z, N' (p + 3) z = if o ≤ z ∧ z < o + X.1 then stpB X l (fun i => N (p + 3) (o + i)) (z - o) else N (p + 3) z) := by
  unfold f_X7_passes
  rw [L0]
  refine mx_lb0 (mx_for (fun c N' => frA N N' (p + 4) (p + 5) ∧ ∀ j, j < c → N' (p + 4) j = stpB X l (fun i => N (p + 3) (o + i)) j) (s := 0) (e := X.1) (by omega) (by omega) ⟨frA.refl, fun z e => absurd e (by omega)⟩ ?_ ?_) ?_
  · intro c N1 _ hc ⟨p1, p2⟩
    have hX1 := hX.frA p1 (by omega)
    have f0 := hX1.1
    have f3 : N1 (p + 3) = N (p + 3) := p1 _ (by omega)
    let F : Nat → Nat := fun i => if l = 2 then X.2.2.2 0 i c + X.2.2.2 1 i c else X.2.2.2 l i c
    have hF : ∀ i, i < X.1 → F i < 20014 := by
      intro i hi
      show (if l = 2 then _ else _) < _
      by_cases e : l = 2
      · rw [if_pos e]
        have := (ok i hi).2.2 c 0 hc (by omega)
        have := (ok i hi).2.2 c 1 hc (by omega)
        omega
      · rw [if_neg e]
        have := (ok i hi).2.2 c l hc (by omega)
        omega
    have hs : nsum X.1 (fun i => N (p + 3) (o + i) * F i) % 10007 = stpB X l (fun i => N (p + 3) (o + i)) c := by
      unfold stpB stpA
      by_cases e : l = 2
      · rw [if_pos e]
        exact congrArg (· % 10007) (nsum_congr (fun i _ => by show _ * (if l = 2 then _ else _) = _; rw [if_pos e]))
      · rw [if_neg e]
        exact congrArg (· % 10007) (nsum_congr (fun i _ => by show _ * (if l = 2 then _ else _) = _; rw [if_neg e]))
    have hloop : loopM (fun q => f_X7_passes_B19 Γ p (nI x) (nI o) (nI l) (nI c) q.1 q.2.1 q.2.2) FUEL (nI 0, nI 0, cS N1 R J) = some (nI (stpB X l (fun i => N (p + 3) (o + i)) c), cS N1 R J) := by
      refine loop_for (fun k => (nI (nsum k (fun i => N (p + 3) (o + i) * F i) % 10007), nI k, cS N1 R J)) _ X.1 rfl (by unfold FUEL; omega) ?_ ?_
      · intro k hk
        have g1 : N (p + 3) (o + k) * F k ≤ 10006 * 20013 := Nat.mul_le_mul (Nat.le_of_lt_succ (b k hk)) (Nat.le_of_lt_succ (hF k hk))
        have g2 := mlt (nsum k (fun i => N (p + 3) (o + i) * F i))
        have g3 : F k = if l = 2 then X.2.2.2 0 k c + X.2.2.2 1 k c else X.2.2.2 l k c := rfl
        show f_X7_passes_B19 _ _ _ _ _ _ _ _ _ = _
        unfold f_X7_passes_B19
        by_cases e : l = 2
        · have k1 := (hX1.2 k hk).2.2 c 0 hc (by omega)
          have k2 := (hX1.2 k hk).2.2 c 1 hc (by omega)
          rw [if_pos e] at g3
          simp (disch := omega) only [c_bnd, c_chk, c_lb0, c_lb1, c_lb2, c_lb3, L0, L1, L2, L10007, nI_add, pk_mul, ile_t, ile_f, ilt_t, ilt_f, ieq_t, ieq_f, c_rmI, setF_at, setF_ne, setF_setF, true_and, up1_at, up1_ne, pk_sub, pk_cpy_in, pk_cpy_out, Nat.zero_add, Nat.add_zero, Nat.zero_mul, Nat.sub_zero, Nat.add_sub_cancel_left, c_gfI h.ob, c_pfI h.ob, c_chkO h.ob, c_gfR h.ob h.rpool, c_ldI h.gpool, c_stI h.gpool, m_iAt, m_fAt, m_at, m_many h, L12, L13, L25, L144, L313, f0, k1, k2]
          unfold f_X7_passes_B19_L80
          simp (disch := omega) only [c_bnd, c_chk, c_lb0, c_lb1, c_lb2, c_lb3, L0, L1, L2, L10007, nI_add, pk_mul, ile_t, ile_f, ilt_t, ilt_f, ieq_t, ieq_f, c_rmI, setF_at, setF_ne, setF_setF, true_and, up1_at, up1_ne, pk_sub, pk_cpy_in, pk_cpy_out, Nat.zero_add, Nat.add_zero, Nat.zero_mul, Nat.sub_zero, Nat.add_sub_cancel_left, c_gfR h.ob h.rrow, c_ldI h.grow, c_stI h.grow, f3, ← g3, mod_acc]
          rfl
        · have k1 := (hX1.2 k hk).2.2 c l hc (by omega)
          rw [if_neg e] at g3
          simp (disch := omega) only [c_bnd, c_chk, c_lb0, c_lb1, c_lb2, c_lb3, L0, L1, L2, L10007, nI_add, pk_mul, ile_t, ile_f, ilt_t, ilt_f, ieq_t, ieq_f, c_rmI, setF_at, setF_ne, setF_setF, true_and, up1_at, up1_ne, pk_sub, pk_cpy_in, pk_cpy_out, Nat.zero_add, Nat.add_zero, Nat.zero_mul, Nat.sub_zero, Nat.add_sub_cancel_left, c_gfI h.ob, c_pfI h.ob, c_chkO h.ob, c_gfR h.ob h.rpool, c_ldI h.gpool, c_stI h.gpool, m_iAt, m_fAt, m_at, m_many h, L12, L13, L25, L144, L313, f0, k1]
          unfold f_X7_passes_B19_L80
          simp (disch := omega) only [c_bnd, c_chk, c_lb0, c_lb1, c_lb2, c_lb3, L0, L1, L2, L10007, nI_add, pk_mul, ile_t, ile_f, ilt_t, ilt_f, ieq_t, ieq_f, c_rmI, setF_at, setF_ne, setF_setF, true_and, up1_at, up1_ne, pk_sub, pk_cpy_in, pk_cpy_out, Nat.zero_add, Nat.add_zero, Nat.zero_mul, Nat.sub_zero, Nat.add_sub_cancel_left, c_gfR h.ob h.rrow, c_ldI h.grow, c_stI h.grow, f3, ← g3, mod_acc]
          rfl
      · show f_X7_passes_B19 _ _ _ _ _ _ _ _ _ = _
        unfold f_X7_passes_B19
        simp (disch := omega) only [c_bnd, c_chk, c_lb0, c_lb1, c_lb2, c_lb3, L0, L1, L2, L10007, nI_add, pk_mul, ile_t, ile_f, ilt_t, ilt_f, ieq_t, ieq_f, c_rmI, setF_at, setF_ne, setF_setF, true_and, up1_at, up1_ne, pk_sub, pk_cpy_in, pk_cpy_out, Nat.zero_add, Nat.add_zero, Nat.zero_mul, Nat.sub_zero, Nat.add_sub_cancel_left, c_gfI h.ob, c_pfI h.ob, c_chkO h.ob, c_gfR h.ob h.rpool, c_ldI h.gpool, c_stI h.gpool, m_iAt, m_fAt, m_at, m_many h, L12, L13, L25, L144, L313, f0]
        rw [hs]
    show Mx (f_X7_passes_B3 _ _ _ _ _ _ _) _ _ _ _
    unfold f_X7_passes_B3
    simp (disch := omega) only [c_bnd, c_chk, c_lb0, c_lb1, c_lb2, c_lb3, L0, L1, L2, L10007, nI_add, pk_mul, ile_t, ile_f, ilt_t, ilt_f, ieq_t, ieq_f, c_rmI, setF_at, setF_ne, setF_setF, true_and, up1_at, up1_ne, pk_sub, pk_cpy_in, pk_cpy_out, Nat.zero_add, Nat.add_zero, Nat.zero_mul, Nat.sub_zero, Nat.add_sub_cancel_left, c_gfI h.ob, c_pfI h.ob, c_chkO h.ob, c_gfR h.ob h.rpool, c_ldI h.gpool, c_stI h.gpool, m_iAt, m_fAt, m_at, m_many h, L12, L13, L25, L144, L313, f0]
    rw [hloop]
    simp (disch := omega) only [c_bnd, c_chk, c_lb0, c_lb1, c_lb2, c_lb3, L0, L1, L2, L10007, nI_add, pk_mul, ile_t, ile_f, ilt_t, ilt_f, ieq_t, ieq_f, c_rmI, setF_at, setF_ne, setF_setF, true_and, up1_at, up1_ne, pk_sub, pk_cpy_in, pk_cpy_out, Nat.zero_add, Nat.add_zero, Nat.zero_mul, Nat.sub_zero, Nat.add_sub_cancel_left, c_gfR h.ob h.rnext, c_ldI h.gnext, c_stI h.gnext]
    refine mx_eq rfl ?_
    refine ⟨p1.trans (frA.set (by omega) (by omega)), fun j hj => ?_⟩
    rw [setF_at]
    by_cases e : j = c
    · subst e
      simp (disch := omega) only [c_bnd, c_chk, c_lb0, c_lb1, c_lb2, c_lb3, L0, L1, L2, L10007, nI_add, pk_mul, ile_t, ile_f, ilt_t, ilt_f, ieq_t, ieq_f, c_rmI, setF_at, setF_ne, setF_setF, true_and, up1_at, up1_ne, pk_sub, pk_cpy_in, pk_cpy_out, Nat.zero_add, Nat.add_zero, Nat.zero_mul, Nat.sub_zero, Nat.add_sub_cancel_left]
    · simp (disch := omega) only [c_bnd, c_chk, c_lb0, c_lb1, c_lb2, c_lb3, L0, L1, L2, L10007, nI_add, pk_mul, ile_t, ile_f, ilt_t, ilt_f, ieq_t, ieq_f, c_rmI, setF_at, setF_ne, setF_setF, true_and, up1_at, up1_ne, pk_sub, pk_cpy_in, pk_cpy_out, Nat.zero_add, Nat.add_zero, Nat.zero_mul, Nat.sub_zero, Nat.add_sub_cancel_left]
      exact p2 j (by omega)
  · intro N1 ⟨p1, p2⟩
    have f0 := (hX.frA p1 (by omega)).1
    show f_X7_passes_B3 _ _ _ _ _ _ _ = _
    unfold f_X7_passes_B3
    simp (disch := omega) only [c_bnd, c_chk, c_lb0, c_lb1, c_lb2, c_lb3, L0, L1, L2, L10007, nI_add, pk_mul, ile_t, ile_f, ilt_t, ilt_f, ieq_t, ieq_f, c_rmI, setF_at, setF_ne, setF_setF, true_and, up1_at, up1_ne, pk_sub, pk_cpy_in, pk_cpy_out, Nat.zero_add, Nat.add_zero, Nat.zero_mul, Nat.sub_zero, Nat.add_sub_cancel_left, c_gfI h.ob, c_pfI h.ob, c_chkO h.ob, c_gfR h.ob h.rpool, c_ldI h.gpool, c_stI h.gpool, m_iAt, m_fAt, m_at, m_many h, L12, L13, L25, L144, L313, f0]
  intro N1 ⟨p1, p2⟩
  refine mx_lb0 (mx_for (fun c N' => frA N1 N' (p + 3) (p + 4) ∧ ∀ z, N' (p + 3) z = if o ≤ z ∧ z < o + c then stpB X l (fun i => N (p + 3) (o + i)) (z - o) else N1 (p + 3) z) (s := 0) (e := X.1) (by omega) (by omega) ⟨frA.refl, fun z => by rw [if_neg (by omega)]⟩ ?_ ?_) ?_
  · intro c N2 _ hc ⟨r1, r2⟩
    have f0 := ((hX.frA p1 (by omega)).frA r1 (by omega)).1
    have f1 : N2 (p + 4) c = stpB X l (fun i => N (p + 3) (o + i)) c := by rw [r1 _ (by omega)]; exact p2 c hc
    show Mx (f_X7_passes_B127 _ _ _ _ _ _) _ _ _ _
    unfold f_X7_passes_B127
    simp (disch := omega) only [c_bnd, c_chk, c_lb0, c_lb1, c_lb2, c_lb3, L0, L1, L2, L10007, nI_add, pk_mul, ile_t, ile_f, ilt_t, ilt_f, ieq_t, ieq_f, c_rmI, setF_at, setF_ne, setF_setF, true_and, up1_at, up1_ne, pk_sub, pk_cpy_in, pk_cpy_out, Nat.zero_add, Nat.add_zero, Nat.zero_mul, Nat.sub_zero, Nat.add_sub_cancel_left, c_gfI h.ob, c_pfI h.ob, c_chkO h.ob, c_gfR h.ob h.rpool, c_ldI h.gpool, c_stI h.gpool, m_iAt, m_fAt, m_at, m_many h, L12, L13, L25, L144, L313, c_gfR h.ob h.rrow, c_ldI h.grow, c_stI h.grow, c_gfR h.ob h.rnext, c_ldI h.gnext, c_stI h.gnext, f0, f1]
    refine mx_eq rfl ?_
    refine ⟨r1.trans (frA.set (by omega) (by omega)), fun z => ?_⟩
    rw [setF_at]
    by_cases e : z = o + c
    · subst e
      simp (disch := omega) only [c_bnd, c_chk, c_lb0, c_lb1, c_lb2, c_lb3, L0, L1, L2, L10007, nI_add, pk_mul, ile_t, ile_f, ilt_t, ilt_f, ieq_t, ieq_f, c_rmI, setF_at, setF_ne, setF_setF, true_and, up1_at, up1_ne, pk_sub, pk_cpy_in, pk_cpy_out, Nat.zero_add, Nat.add_zero, Nat.zero_mul, Nat.sub_zero, Nat.add_sub_cancel_left]
      rw [if_pos (by omega)]
    · simp (disch := omega) only [c_bnd, c_chk, c_lb0, c_lb1, c_lb2, c_lb3, L0, L1, L2, L10007, nI_add, pk_mul, ile_t, ile_f, ilt_t, ilt_f, ieq_t, ieq_f, c_rmI, setF_at, setF_ne, setF_setF, true_and, up1_at, up1_ne, pk_sub, pk_cpy_in, pk_cpy_out, Nat.zero_add, Nat.add_zero, Nat.zero_mul, Nat.sub_zero, Nat.add_sub_cancel_left]
      rw [r2 z]
      by_cases e2 : o ≤ z ∧ z < o + c
      · rw [if_pos e2, if_pos (by omega)]
      · rw [if_neg e2, if_neg (by omega)]
  · intro N2 ⟨r1, r2⟩
    have f0 := ((hX.frA p1 (by omega)).frA r1 (by omega)).1
    show f_X7_passes_B127 _ _ _ _ _ _ = _
    unfold f_X7_passes_B127
    simp (disch := omega) only [c_bnd, c_chk, c_lb0, c_lb1, c_lb2, c_lb3, L0, L1, L2, L10007, nI_add, pk_mul, ile_t, ile_f, ilt_t, ilt_f, ieq_t, ieq_f, c_rmI, setF_at, setF_ne, setF_setF, true_and, up1_at, up1_ne, pk_sub, pk_cpy_in, pk_cpy_out, Nat.zero_add, Nat.add_zero, Nat.zero_mul, Nat.sub_zero, Nat.add_sub_cancel_left, c_gfI h.ob, c_pfI h.ob, c_chkO h.ob, c_gfR h.ob h.rpool, c_ldI h.gpool, c_stI h.gpool, m_iAt, m_fAt, m_at, m_many h, L12, L13, L25, L144, L313, f0]
  · intro N2 ⟨r1, r2⟩
    refine mx_eq rfl ⟨(p1.mono (by omega) (by omega)).trans (r1.mono (by omega) (by omega)), fun z => ?_⟩
    rw [r2 z, p1 (p + 3) (by omega)]
theorem m_laysBasis (h : mS Γ R p) {r w : Nat} (hr : r < 24) (hw : w ≤ 24) : Mx (f_X7_laysBasis Γ p (nI r) (nI w) (cS N R J)) (fun σ => ((), σ)) R J (fun N' => frA N N' (p + 3) (p + 4) ∧ ∀ z, N' (p + 3) z = if z < w then N (p + 5) (24 * r + z) else N (p + 3) z) := by
  unfold f_X7_laysBasis
  rw [L0]
  refine mx_lb0 (mx_for (fun c N' => frA N N' (p + 3) (p + 4) ∧ ∀ z, N' (p + 3) z = if z < c then N (p + 5) (24 * r + z) else N (p + 3) z) (s := 0) (e := w) (by omega) (by omega) ⟨frA.refl, fun z => by rw [if_neg (by omega)]⟩ ?_ ?_) ?_
  · intro c N1 _ hc ⟨p1, p2⟩
    have f1 : N1 (p + 5) = N (p + 5) := p1 _ (by omega)
    show Mx (f_X7_laysBasis_B2 _ _ _ _ _ _) _ _ _ _
    unfold f_X7_laysBasis_B2
    simp (disch := omega) only [c_bnd, c_chk, c_lb0, c_lb1, c_lb2, c_lb3, L0, L1, L2, L10007, nI_add, pk_mul, ile_t, ile_f, ilt_t, ilt_f, ieq_t, ieq_f, c_rmI, setF_at, setF_ne, setF_setF, true_and, up1_at, up1_ne, pk_sub, pk_cpy_in, pk_cpy_out, Nat.zero_add, Nat.add_zero, Nat.zero_mul, Nat.sub_zero, Nat.add_sub_cancel_left, c_gfR h.ob h.rrow, c_ldI h.grow, c_stI h.grow, c_gfR h.ob h.rbasis, c_ldI h.gbasis, c_stI h.gbasis, f1, L24]
    refine mx_eq rfl ?_
    refine ⟨p1.trans (frA.set (by omega) (by omega)), fun z => ?_⟩
    rw [setF_at]
    by_cases e : z = c
    · subst e
      simp (disch := omega) only [c_bnd, c_chk, c_lb0, c_lb1, c_lb2, c_lb3, L0, L1, L2, L10007, nI_add, pk_mul, ile_t, ile_f, ilt_t, ilt_f, ieq_t, ieq_f, c_rmI, setF_at, setF_ne, setF_setF, true_and, up1_at, up1_ne, pk_sub, pk_cpy_in, pk_cpy_out, Nat.zero_add, Nat.add_zero, Nat.zero_mul, Nat.sub_zero, Nat.add_sub_cancel_left]
      rw [if_pos (by omega)]
    · simp (disch := omega) only [c_bnd, c_chk, c_lb0, c_lb1, c_lb2, c_lb3, L0, L1, L2, L10007, nI_add, pk_mul, ile_t, ile_f, ilt_t, ilt_f, ieq_t, ieq_f, c_rmI, setF_at, setF_ne, setF_setF, true_and, up1_at, up1_ne, pk_sub, pk_cpy_in, pk_cpy_out, Nat.zero_add, Nat.add_zero, Nat.zero_mul, Nat.sub_zero, Nat.add_sub_cancel_left]
      rw [p2 z]
      by_cases e2 : z < c
      · rw [if_pos e2, if_pos (by omega)]
      · rw [if_neg e2, if_neg (by omega)]
  · intro N1 ⟨p1, p2⟩
    show f_X7_laysBasis_B2 _ _ _ _ _ _ = _
    unfold f_X7_laysBasis_B2
    simp (disch := omega) only [c_bnd, c_chk, c_lb0, c_lb1, c_lb2, c_lb3, L0, L1, L2, L10007, nI_add, pk_mul, ile_t, ile_f, ilt_t, ilt_f, ieq_t, ieq_f, c_rmI, setF_at, setF_ne, setF_setF, true_and, up1_at, up1_ne, pk_sub, pk_cpy_in, pk_cpy_out, Nat.zero_add, Nat.add_zero, Nat.zero_mul, Nat.sub_zero, Nat.add_sub_cancel_left]
  · intro N1 q
    exact mx_eq rfl q
end MD
