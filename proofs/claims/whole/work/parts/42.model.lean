/-! ===== the model: products, star ===== -/
theorem pD.put {N0 N : Mem} {p q : Nat} {A : Au} {PI PF QI QF : Nat → Prop} {PM QM : Nat → Nat → Nat → Prop} (h : pD N0 N p q A PI PF PM) (hA : A.1 ≤ 12) {g : Nat → Nat} (h0 : ∀ z, z < 313 * q + 1 ∨ 313 * q + 313 ≤ z → g z = N (p + 1) z) (h1 : ∀ i, i < A.1 → QI i → PI i ∧ g (313 * q + 1 + i) = N (p + 1) (313 * q + 1 + i) ∨ g (313 * q + 1 + i) = A.2.1 i) (h2 : ∀ i, i < A.1 → QF i → PF i ∧ g (313 * q + 13 + i) = N (p + 1) (313 * q + 13 + i) ∨ g (313 * q + 13 + i) = A.2.2.1 i) (h3 : ∀ l i j, l < 2 → i < A.1 → j < A.1 → QM l i j → PM l i j ∧ g (313 * q + 25 + 144 * l + 12 * i + j) = N (p + 1) (313 * q + 25 + 144 * l + 12 * i + j) ∨ g (313 * q + 25 + 144 * l + 12 * i + j) = A.2.2.2 l i j) : pD N0 (setF N (p + 1) g) p q A QI QF QM := by
  refine ⟨h.1.trans ⟨fun x e => setF_ne (by omega), fun z e => ?_⟩, ?_, fun i a b => ?_, fun i a b => ?_, fun l i j a b c d => ?_⟩
  · rw [setF_at]; exact h0 z (by omega)
  · rw [setF_at, h0 _ (by omega)]; exact h.2.1
  · rw [setF_at]
    rcases h1 i a b with e | e
    · rw [e.2]; exact h.2.2.1 i a e.1
    · exact e
  · rw [setF_at]
    rcases h2 i a b with e | e
    · rw [e.2]; exact h.2.2.2.1 i a e.1
    · exact e
  · rw [setF_at]
    rcases h3 l i j a b c d with e | e
    · rw [e.2]; exact h.2.2.2.2 l i j a b c e.1
    · exact e
section MC
variable {Γ : zSh} {N : Mem} {R : Nat → Nat → Nat} {J : Nat → Nat → Int64} {p q x y n l : Nat} {A X Y : Au}
theorem m_multiplies (h : mS Γ R p) (hx : x < 26) (hy : y < 26) (hq : q < 26) (hxq : x ≠ q) (hyq : y ≠ q) (hX : mAu N p x X) (hY : mAu N p y Y) (hX12 : X.1 ≤ 12) (hY12 : Y.1 ≤ 12) (okX : okA X) (okY : okA Y) (hc : X.1 * Y.1 ≤ 12) : Mx (f_X7_multiplies Γ p (nI x) (nI y) (nI q) (cS N R J)) (fun σ => ((), σ)) R J (fun N' => frP N N' p (313 * q) (313 * q + 313) ∧ mAu N' p q (hadA X Y)) := by
  have e0 := hX.1
  have e1 := hY.1
  unfold f_X7_multiplies
  simp (disch := omega) only [c_bnd, c_chk, c_lb0, c_lb1, c_lb2, c_lb3, L0, L1, L2, L10007, nI_add, pk_mul, ile_t, ile_f, ilt_t, ilt_f, ieq_t, ieq_f, c_rmI, setF_at, setF_ne, setF_setF, true_and, up1_at, up1_ne, pk_sub, pk_cpy_in, pk_cpy_out, Nat.zero_add, Nat.add_zero, Nat.zero_mul, Nat.sub_zero, Nat.add_sub_cancel_left, c_gfI h.ob, c_pfI h.ob, c_chkO h.ob, c_gfR h.ob h.rpool, c_ldI h.gpool, c_stI h.gpool, m_iAt, m_fAt, m_at, m_many h, L12, L13, L25, L144, L313, e0, e1]
  refine mx_bnd (pD.clears (A := hadA X Y) h hq hc) ?_
  intro N1 d1
  refine mx_lb0 (mx_for (fun c N' => pD N N' p q (hadA X Y) (fun i => i < c) (fun i => i < c) (fun _ i _ => i < c)) (s := 0) (e := X.1 * Y.1) (by omega) (by omega) (d1.mono (fun i _ e => absurd e (by omega)) (fun i _ e => absurd e (by omega)) (fun l i j _ _ _ e => absurd e (by omega))) ?_ ?_) ?_
  · intro s N2 _ hs d2
    have hX2 := hX.fr hX12 d2.1 (by omega)
    have hY2 := hY.fr hY12 d2.1 (by omega)
    have f1 := hY2.1
    have f2 := d2.2.1
    rw [show (hadA X Y).1 = X.1 * Y.1 from rfl] at f2
    obtain ⟨u1, u2, u3⟩ := dvm' hs
    have u0 : 0 < Y.1 := by omega
    generalize hi : s / Y.1 = i0 at u1 u3
    generalize hj : s % Y.1 = j0 at u2 u3
    clear u3
    have v1 := (hX2.2 _ u1).1
    have v2 := (hX2.2 _ u1).2.1
    have v3 := (hY2.2 _ u2).1
    have v4 := (hY2.2 _ u2).2.1
    have w1 := pmul (okX _ u1).1 (okY _ u2).1
    have w2 := pmul (okX _ u1).2.1 (okY _ u2).2.1
    show Mx (f_X7_multiplies_B19 _ _ _ _ _ _ _) _ _ _ _
    unfold f_X7_multiplies_B19
    simp (disch := omega) only [c_bnd, c_chk, c_lb0, c_lb1, c_lb2, c_lb3, L0, L1, L2, L10007, nI_add, pk_mul, ile_t, ile_f, ilt_t, ilt_f, ieq_t, ieq_f, c_rmI, setF_at, setF_ne, setF_setF, true_and, up1_at, up1_ne, pk_sub, pk_cpy_in, pk_cpy_out, Nat.zero_add, Nat.add_zero, Nat.zero_mul, Nat.sub_zero, Nat.add_sub_cancel_left, c_gfI h.ob, c_pfI h.ob, c_chkO h.ob, c_gfR h.ob h.rpool, c_ldI h.gpool, c_stI h.gpool, m_iAt, m_fAt, m_at, m_many h, L12, L13, L25, L144, L313, f1, f2, c_dvI, hi, hj, v1, v2, v3, v4]
    refine mx_lb0 (mx_for (fun t N' => pD N N' p q (hadA X Y) (fun i => i < s + 1) (fun i => i < s + 1) (fun _ i j => i < s ∨ i = s ∧ j < t)) (s := 0) (e := X.1 * Y.1) (by omega) (by omega) ?_ ?_ ?_) ?_
    · refine d2.put hc (fun z e => ?_) (fun i a b => ?_) (fun i a b => ?_) (fun l i j a1 a2 a3 a4 => ?_)
      · simp (disch := omega) only [c_bnd, c_chk, c_lb0, c_lb1, c_lb2, c_lb3, L0, L1, L2, L10007, nI_add, pk_mul, ile_t, ile_f, ilt_t, ilt_f, ieq_t, ieq_f, c_rmI, setF_at, setF_ne, setF_setF, true_and, up1_at, up1_ne, pk_sub, pk_cpy_in, pk_cpy_out, Nat.zero_add, Nat.add_zero, Nat.zero_mul, Nat.sub_zero, Nat.add_sub_cancel_left]
      · have a' : i < X.1 * Y.1 := a
        by_cases e : i = s
        · subst e
          refine Or.inr ?_
          simp (disch := omega) only [c_bnd, c_chk, c_lb0, c_lb1, c_lb2, c_lb3, L0, L1, L2, L10007, nI_add, pk_mul, ile_t, ile_f, ilt_t, ilt_f, ieq_t, ieq_f, c_rmI, setF_at, setF_ne, setF_setF, true_and, up1_at, up1_ne, pk_sub, pk_cpy_in, pk_cpy_out, Nat.zero_add, Nat.add_zero, Nat.zero_mul, Nat.sub_zero, Nat.add_sub_cancel_left]
          show _ = X.2.1 (i / Y.1) * Y.2.1 (i % Y.1) % 10007
          rw [hi, hj]
        · refine Or.inl ⟨by omega, ?_⟩
          simp (disch := omega) only [c_bnd, c_chk, c_lb0, c_lb1, c_lb2, c_lb3, L0, L1, L2, L10007, nI_add, pk_mul, ile_t, ile_f, ilt_t, ilt_f, ieq_t, ieq_f, c_rmI, setF_at, setF_ne, setF_setF, true_and, up1_at, up1_ne, pk_sub, pk_cpy_in, pk_cpy_out, Nat.zero_add, Nat.add_zero, Nat.zero_mul, Nat.sub_zero, Nat.add_sub_cancel_left]
      · have a' : i < X.1 * Y.1 := a
        by_cases e : i = s
        · subst e
          refine Or.inr ?_
          simp (disch := omega) only [c_bnd, c_chk, c_lb0, c_lb1, c_lb2, c_lb3, L0, L1, L2, L10007, nI_add, pk_mul, ile_t, ile_f, ilt_t, ilt_f, ieq_t, ieq_f, c_rmI, setF_at, setF_ne, setF_setF, true_and, up1_at, up1_ne, pk_sub, pk_cpy_in, pk_cpy_out, Nat.zero_add, Nat.add_zero, Nat.zero_mul, Nat.sub_zero, Nat.add_sub_cancel_left]
          show _ = X.2.2.1 (i / Y.1) * Y.2.2.1 (i % Y.1) % 10007
          rw [hi, hj]
        · refine Or.inl ⟨by omega, ?_⟩
          simp (disch := omega) only [c_bnd, c_chk, c_lb0, c_lb1, c_lb2, c_lb3, L0, L1, L2, L10007, nI_add, pk_mul, ile_t, ile_f, ilt_t, ilt_f, ieq_t, ieq_f, c_rmI, setF_at, setF_ne, setF_setF, true_and, up1_at, up1_ne, pk_sub, pk_cpy_in, pk_cpy_out, Nat.zero_add, Nat.add_zero, Nat.zero_mul, Nat.sub_zero, Nat.add_sub_cancel_left]
      · have a2' : i < X.1 * Y.1 := a2
        have a3' : j < X.1 * Y.1 := a3
        refine Or.inl ⟨by omega, ?_⟩
        simp (disch := omega) only [c_bnd, c_chk, c_lb0, c_lb1, c_lb2, c_lb3, L0, L1, L2, L10007, nI_add, pk_mul, ile_t, ile_f, ilt_t, ilt_f, ieq_t, ieq_f, c_rmI, setF_at, setF_ne, setF_setF, true_and, up1_at, up1_ne, pk_sub, pk_cpy_in, pk_cpy_out, Nat.zero_add, Nat.add_zero, Nat.zero_mul, Nat.sub_zero, Nat.add_sub_cancel_left]
    · intro t N3 _ ht d3
      have g2 := d3.2.1
      rw [show (hadA X Y).1 = X.1 * Y.1 from rfl] at g2
      show Mx (f_X7_multiplies_B128 _ _ _ _ _ _ _ _ _ _) _ _ _ _
      unfold f_X7_multiplies_B128
      simp (disch := omega) only [c_bnd, c_chk, c_lb0, c_lb1, c_lb2, c_lb3, L0, L1, L2, L10007, nI_add, pk_mul, ile_t, ile_f, ilt_t, ilt_f, ieq_t, ieq_f, c_rmI, setF_at, setF_ne, setF_setF, true_and, up1_at, up1_ne, pk_sub, pk_cpy_in, pk_cpy_out, Nat.zero_add, Nat.add_zero, Nat.zero_mul, Nat.sub_zero, Nat.add_sub_cancel_left, c_gfI h.ob, c_pfI h.ob, c_chkO h.ob, c_gfR h.ob h.rpool, c_ldI h.gpool, c_stI h.gpool, m_iAt, m_fAt, m_at, m_many h, L12, L13, L25, L144, L313, g2]
      refine mx_lb0 (mx_for (fun l N' => pD N N' p q (hadA X Y) (fun i => i < s + 1) (fun i => i < s + 1) (fun l' i j => i < s ∨ i = s ∧ (j < t ∨ j = t ∧ l' < l))) (s := 0) (e := 2) (by omega) (by omega) (d3.mono (fun i _ e => e) (fun i _ e => e) (fun l i j _ _ _ e => by omega)) ?_ ?_) ?_
      · intro l N4 _ hl d4
        have hX4 := hX.fr hX12 d4.1 (by omega)
        have hY4 := hY.fr hY12 d4.1 (by omega)
        have k1 := hY4.1
        obtain ⟨t1, t2, t3⟩ := dvm' ht
        generalize hti : t / Y.1 = i1 at t1 t3
        generalize htj : t % Y.1 = j1 at t2 t3
        clear t3
        have k2 := (hX4.2 _ u1).2.2 _ l t1 hl
        have k3 := (hY4.2 _ u2).2.2 _ l t2 hl
        have k4 := pmul ((okX _ u1).2.2 _ l t1 hl) ((okY _ u2).2.2 _ l t2 hl)
        show Mx (f_X7_multiplies_B141 _ _ _ _ _ _ _ _ _ _ _) _ _ _ _
        unfold f_X7_multiplies_B141
        simp (disch := omega) only [c_bnd, c_chk, c_lb0, c_lb1, c_lb2, c_lb3, L0, L1, L2, L10007, nI_add, pk_mul, ile_t, ile_f, ilt_t, ilt_f, ieq_t, ieq_f, c_rmI, setF_at, setF_ne, setF_setF, true_and, up1_at, up1_ne, pk_sub, pk_cpy_in, pk_cpy_out, Nat.zero_add, Nat.add_zero, Nat.zero_mul, Nat.sub_zero, Nat.add_sub_cancel_left, c_gfI h.ob, c_pfI h.ob, c_chkO h.ob, c_gfR h.ob h.rpool, c_ldI h.gpool, c_stI h.gpool, m_iAt, m_fAt, m_at, m_many h, L12, L13, L25, L144, L313, k1, c_dvI, hti, htj, k2, k3]
        refine mx_eq rfl ?_
        refine d4.put hc (fun z e => ?_) (fun i a b => ?_) (fun i a b => ?_) (fun l' i j a1 a2 a3 a4 => ?_)
        · simp (disch := omega) only [c_bnd, c_chk, c_lb0, c_lb1, c_lb2, c_lb3, L0, L1, L2, L10007, nI_add, pk_mul, ile_t, ile_f, ilt_t, ilt_f, ieq_t, ieq_f, c_rmI, setF_at, setF_ne, setF_setF, true_and, up1_at, up1_ne, pk_sub, pk_cpy_in, pk_cpy_out, Nat.zero_add, Nat.add_zero, Nat.zero_mul, Nat.sub_zero, Nat.add_sub_cancel_left]
        · have a' : i < X.1 * Y.1 := a
          refine Or.inl ⟨b, ?_⟩
          simp (disch := omega) only [c_bnd, c_chk, c_lb0, c_lb1, c_lb2, c_lb3, L0, L1, L2, L10007, nI_add, pk_mul, ile_t, ile_f, ilt_t, ilt_f, ieq_t, ieq_f, c_rmI, setF_at, setF_ne, setF_setF, true_and, up1_at, up1_ne, pk_sub, pk_cpy_in, pk_cpy_out, Nat.zero_add, Nat.add_zero, Nat.zero_mul, Nat.sub_zero, Nat.add_sub_cancel_left]
        · have a' : i < X.1 * Y.1 := a
          refine Or.inl ⟨b, ?_⟩
          simp (disch := omega) only [c_bnd, c_chk, c_lb0, c_lb1, c_lb2, c_lb3, L0, L1, L2, L10007, nI_add, pk_mul, ile_t, ile_f, ilt_t, ilt_f, ieq_t, ieq_f, c_rmI, setF_at, setF_ne, setF_setF, true_and, up1_at, up1_ne, pk_sub, pk_cpy_in, pk_cpy_out, Nat.zero_add, Nat.add_zero, Nat.zero_mul, Nat.sub_zero, Nat.add_sub_cancel_left]
        · have a2' : i < X.1 * Y.1 := a2
          have a3' : j < X.1 * Y.1 := a3
          by_cases e : l' = l ∧ i = s ∧ j = t
          · obtain ⟨rfl, rfl, rfl⟩ := e
            refine Or.inr ?_
            simp (disch := omega) only [c_bnd, c_chk, c_lb0, c_lb1, c_lb2, c_lb3, L0, L1, L2, L10007, nI_add, pk_mul, ile_t, ile_f, ilt_t, ilt_f, ieq_t, ieq_f, c_rmI, setF_at, setF_ne, setF_setF, true_and, up1_at, up1_ne, pk_sub, pk_cpy_in, pk_cpy_out, Nat.zero_add, Nat.add_zero, Nat.zero_mul, Nat.sub_zero, Nat.add_sub_cancel_left]
            show _ = X.2.2.2 l' (i / Y.1) (j / Y.1) * Y.2.2.2 l' (i % Y.1) (j % Y.1) % 10007
            rw [hi, hj, hti, htj]
          · refine Or.inl ⟨by omega, ?_⟩
            exact up1_ne (by omega)
      · intro N4 _
        show f_X7_multiplies_B141 _ _ _ _ _ _ _ _ _ _ _ = _
        unfold f_X7_multiplies_B141
        simp (disch := omega) only [c_bnd, c_chk, c_lb0, c_lb1, c_lb2, c_lb3, L0, L1, L2, L10007, nI_add, pk_mul, ile_t, ile_f, ilt_t, ilt_f, ieq_t, ieq_f, c_rmI, setF_at, setF_ne, setF_setF, true_and, up1_at, up1_ne, pk_sub, pk_cpy_in, pk_cpy_out, Nat.zero_add, Nat.add_zero, Nat.zero_mul, Nat.sub_zero, Nat.add_sub_cancel_left]
      · intro N4 d4
        exact mx_eq rfl (d4.mono (fun i _ e => e) (fun i _ e => e) (fun l i j _ _ _ e => by omega))
    · intro N3 d3
      have g2 := d3.2.1
      rw [show (hadA X Y).1 = X.1 * Y.1 from rfl] at g2
      show f_X7_multiplies_B128 _ _ _ _ _ _ _ _ _ _ = _
      unfold f_X7_multiplies_B128
      simp (disch := omega) only [c_bnd, c_chk, c_lb0, c_lb1, c_lb2, c_lb3, L0, L1, L2, L10007, nI_add, pk_mul, ile_t, ile_f, ilt_t, ilt_f, ieq_t, ieq_f, c_rmI, setF_at, setF_ne, setF_setF, true_and, up1_at, up1_ne, pk_sub, pk_cpy_in, pk_cpy_out, Nat.zero_add, Nat.add_zero, Nat.zero_mul, Nat.sub_zero, Nat.add_sub_cancel_left, c_gfI h.ob, c_pfI h.ob, c_chkO h.ob, c_gfR h.ob h.rpool, c_ldI h.gpool, c_stI h.gpool, m_iAt, m_fAt, m_at, m_many h, L12, L13, L25, L144, L313, g2]
    · intro N3 d3
      refine mx_eq rfl ?_
      exact d3.mono (fun i _ e => e) (fun i _ e => e) (fun l i j _ _ a e => by
        have a' : j < X.1 * Y.1 := a
        omega)
  · intro N2 d2
    have f2 := d2.2.1
    rw [show (hadA X Y).1 = X.1 * Y.1 from rfl] at f2
    show f_X7_multiplies_B19 _ _ _ _ _ _ _ = _
    unfold f_X7_multiplies_B19
    simp (disch := omega) only [c_bnd, c_chk, c_lb0, c_lb1, c_lb2, c_lb3, L0, L1, L2, L10007, nI_add, pk_mul, ile_t, ile_f, ilt_t, ilt_f, ieq_t, ieq_f, c_rmI, setF_at, setF_ne, setF_setF, true_and, up1_at, up1_ne, pk_sub, pk_cpy_in, pk_cpy_out, Nat.zero_add, Nat.add_zero, Nat.zero_mul, Nat.sub_zero, Nat.add_sub_cancel_left, c_gfI h.ob, c_pfI h.ob, c_chkO h.ob, c_gfR h.ob h.rpool, c_ldI h.gpool, c_stI h.gpool, m_iAt, m_fAt, m_at, m_many h, L12, L13, L25, L144, L313, f2]
  · intro N2 d2
    exact mx_eq rfl ⟨d2.1, d2.toAu (fun i a => a) (fun i a => a) (fun l i j _ a _ => a)⟩
theorem m_joins (h : mS Γ R p) (hx : x < 26) (hy : y < 26) (hq : q < 26) (hxq : x ≠ q) (hyq : y ≠ q) (hX : mAu N p x X) (hY : mAu N p y Y) (okX : okA X) (okY : okA Y) (hc : X.1 + Y.1 ≤ 12) : Mx (f_X7_joins Γ p (nI x) (nI y) (nI q) (cS N R J)) (fun σ => ((), σ)) R J (fun N' => frP N N' p (313 * q) (313 * q + 313) ∧ mAu N' p q (cauA X Y)) := by
  have hX12 : X.1 ≤ 12 := by omega
  have hY12 : Y.1 ≤ 12 := by omega
  have e0 := hX.1
  have e1 := hY.1
  unfold f_X7_joins
  simp (disch := omega) only [c_bnd, c_chk, c_lb0, c_lb1, c_lb2, c_lb3, L0, L1, L2, L10007, nI_add, pk_mul, ile_t, ile_f, ilt_t, ilt_f, ieq_t, ieq_f, c_rmI, setF_at, setF_ne, setF_setF, true_and, up1_at, up1_ne, pk_sub, pk_cpy_in, pk_cpy_out, Nat.zero_add, Nat.add_zero, Nat.zero_mul, Nat.sub_zero, Nat.add_sub_cancel_left, c_gfI h.ob, c_pfI h.ob, c_chkO h.ob, c_gfR h.ob h.rpool, c_ldI h.gpool, c_stI h.gpool, m_iAt, m_fAt, m_at, m_many h, L12, L13, L25, L144, L313, e0, e1]
  refine mx_bnd (pD.clears (A := cauA X Y) h hq hc) ?_
  intro N1 d1
  refine mx_bnd (m_blocks h hx hq hxq hX hc (o := 0) (show 0 + X.1 ≤ X.1 + Y.1 by omega) ?_ d1) ?_
  · intro l i j hl hi hj
    show (if 0 + i < X.1 ∧ 0 + j < X.1 then _ else _) = _
    rw [if_pos (by omega), Nat.zero_add, Nat.zero_add]
  intro N2 d2
  have f0 := (hX.fr hX12 d2.1 (by omega)).1
  simp (disch := omega) only [c_bnd, c_chk, c_lb0, c_lb1, c_lb2, c_lb3, L0, L1, L2, L10007, nI_add, pk_mul, ile_t, ile_f, ilt_t, ilt_f, ieq_t, ieq_f, c_rmI, setF_at, setF_ne, setF_setF, true_and, up1_at, up1_ne, pk_sub, pk_cpy_in, pk_cpy_out, Nat.zero_add, Nat.add_zero, Nat.zero_mul, Nat.sub_zero, Nat.add_sub_cancel_left, c_gfI h.ob, c_pfI h.ob, c_chkO h.ob, c_gfR h.ob h.rpool, c_ldI h.gpool, c_stI h.gpool, m_iAt, m_fAt, m_at, m_many h, L12, L13, L25, L144, L313, f0]
  refine mx_bnd (m_blocks h hy hq hyq hY hc (o := X.1) (Nat.le_refl _) ?_ d2) ?_
  · intro l i j hl hi hj
    show (if X.1 + i < X.1 ∧ X.1 + j < X.1 then _ else if X.1 ≤ X.1 + i ∧ X.1 ≤ X.1 + j then _ else _) = _
    rw [if_neg (by omega), if_pos (by omega), Nat.add_sub_cancel_left, Nat.add_sub_cancel_left]
  intro N3 d3
  have f3 := (hX.fr hX12 d3.1 (by omega)).1
  simp (disch := omega) only [c_bnd, c_chk, c_lb0, c_lb1, c_lb2, c_lb3, L0, L1, L2, L10007, nI_add, pk_mul, ile_t, ile_f, ilt_t, ilt_f, ieq_t, ieq_f, c_rmI, setF_at, setF_ne, setF_setF, true_and, up1_at, up1_ne, pk_sub, pk_cpy_in, pk_cpy_out, Nat.zero_add, Nat.add_zero, Nat.zero_mul, Nat.sub_zero, Nat.add_sub_cancel_left, c_gfI h.ob, c_pfI h.ob, c_chkO h.ob, c_gfR h.ob h.rpool, c_ldI h.gpool, c_stI h.gpool, m_iAt, m_fAt, m_at, m_many h, L12, L13, L25, L144, L313, f3]
  refine mx_lb0 (mx_for (fun c N' => pD N N' p q (cauA X Y) (fun i => i < c) (fun i => i < c) (fun _ i j => ¬ (i < X.1 ∧ X.1 ≤ j))) (s := 0) (e := X.1) (by omega) (by omega) (d3.mono (fun i _ e => absurd e (by omega)) (fun i _ e => absurd e (by omega)) (fun l i j _ a b c => ?_)) ?_ ?_) ?_
  · have a' : i < X.1 + Y.1 := a
    have b' : j < X.1 + Y.1 := b
    by_cases e : (i < X.1 ∧ j < X.1)
    · exact Or.inl (Or.inr (by omega))
    · by_cases e2 : X.1 ≤ i ∧ X.1 ≤ j
      · exact Or.inr (by omega)
      · refine Or.inl (Or.inl ?_)
        show (if i < X.1 ∧ j < X.1 then _ else if X.1 ≤ i ∧ X.1 ≤ j then _ else if i < X.1 then _ else _) = 0
        rw [if_neg e, if_neg e2, if_neg (by omega)]
  · intro c N4 _ hcc d4
    have hX4 := hX.fr hX12 d4.1 (by omega)
    have hY4 := hY.fr hY12 d4.1 (by omega)
    have k1 := (hX4.2 c hcc).1
    have k2 := (hX4.2 c hcc).2.1
    have k3 := pmul (okX c hcc).2.1 (wtA_lt (A := Y) (v := Y.2.1))
    have k4 := fun N' hh => m_empty (J := J) (N := N') h hy hh hY12 okY
    have k5 : mAu (setF N4 (p + 1) (up1 (N4 (p + 1)) (313 * q + 1 + c) (X.2.1 c))) p y Y := hY4.fr hY12 (frP.set (Nat.le_refl _) (Nat.lt_succ_self _)) (by omega)
    have k6 : (cauA X Y).2.1 c = X.2.1 c := if_pos hcc
    have k7 : (cauA X Y).2.2.1 c = X.2.2.1 c * wtA Y Y.2.1 % 10007 := if_pos hcc
    show Mx (f_X7_joins_B44 _ _ _ _ _ _ _ _) _ _ _ _
    unfold f_X7_joins_B44
    simp (disch := omega) only [c_bnd, c_chk, c_lb0, c_lb1, c_lb2, c_lb3, L0, L1, L2, L10007, nI_add, pk_mul, ile_t, ile_f, ilt_t, ilt_f, ieq_t, ieq_f, c_rmI, setF_at, setF_ne, setF_setF, true_and, up1_at, up1_ne, pk_sub, pk_cpy_in, pk_cpy_out, Nat.zero_add, Nat.add_zero, Nat.zero_mul, Nat.sub_zero, Nat.add_sub_cancel_left, c_gfI h.ob, c_pfI h.ob, c_chkO h.ob, c_gfR h.ob h.rpool, c_ldI h.gpool, c_stI h.gpool, m_iAt, m_fAt, m_at, m_many h, L12, L13, L25, L144, L313, k1, k2, k4 _ k5]
    refine mx_eq rfl ?_
    refine d4.put hc (fun z e => ?_) (fun i a b => ?_) (fun i a b => ?_) (fun l i j a1 a2 a3 a4 => ?_)
    · simp (disch := omega) only [c_bnd, c_chk, c_lb0, c_lb1, c_lb2, c_lb3, L0, L1, L2, L10007, nI_add, pk_mul, ile_t, ile_f, ilt_t, ilt_f, ieq_t, ieq_f, c_rmI, setF_at, setF_ne, setF_setF, true_and, up1_at, up1_ne, pk_sub, pk_cpy_in, pk_cpy_out, Nat.zero_add, Nat.add_zero, Nat.zero_mul, Nat.sub_zero, Nat.add_sub_cancel_left]
    · have a' : i < X.1 + Y.1 := a
      by_cases e : i = c
      · subst e
        refine Or.inr ?_
        simp (disch := omega) only [c_bnd, c_chk, c_lb0, c_lb1, c_lb2, c_lb3, L0, L1, L2, L10007, nI_add, pk_mul, ile_t, ile_f, ilt_t, ilt_f, ieq_t, ieq_f, c_rmI, setF_at, setF_ne, setF_setF, true_and, up1_at, up1_ne, pk_sub, pk_cpy_in, pk_cpy_out, Nat.zero_add, Nat.add_zero, Nat.zero_mul, Nat.sub_zero, Nat.add_sub_cancel_left, k6]
      · refine Or.inl ⟨by omega, ?_⟩
        simp (disch := omega) only [c_bnd, c_chk, c_lb0, c_lb1, c_lb2, c_lb3, L0, L1, L2, L10007, nI_add, pk_mul, ile_t, ile_f, ilt_t, ilt_f, ieq_t, ieq_f, c_rmI, setF_at, setF_ne, setF_setF, true_and, up1_at, up1_ne, pk_sub, pk_cpy_in, pk_cpy_out, Nat.zero_add, Nat.add_zero, Nat.zero_mul, Nat.sub_zero, Nat.add_sub_cancel_left]
    · have a' : i < X.1 + Y.1 := a
      by_cases e : i = c
      · subst e
        refine Or.inr ?_
        simp (disch := omega) only [c_bnd, c_chk, c_lb0, c_lb1, c_lb2, c_lb3, L0, L1, L2, L10007, nI_add, pk_mul, ile_t, ile_f, ilt_t, ilt_f, ieq_t, ieq_f, c_rmI, setF_at, setF_ne, setF_setF, true_and, up1_at, up1_ne, pk_sub, pk_cpy_in, pk_cpy_out, Nat.zero_add, Nat.add_zero, Nat.zero_mul, Nat.sub_zero, Nat.add_sub_cancel_left, k7]
      · refine Or.inl ⟨by omega, ?_⟩
        simp (disch := omega) only [c_bnd, c_chk, c_lb0, c_lb1, c_lb2, c_lb3, L0, L1, L2, L10007, nI_add, pk_mul, ile_t, ile_f, ilt_t, ilt_f, ieq_t, ieq_f, c_rmI, setF_at, setF_ne, setF_setF, true_and, up1_at, up1_ne, pk_sub, pk_cpy_in, pk_cpy_out, Nat.zero_add, Nat.add_zero, Nat.zero_mul, Nat.sub_zero, Nat.add_sub_cancel_left]
    · have a2' : i < X.1 + Y.1 := a2
      have a3' : j < X.1 + Y.1 := a3
      refine Or.inl ⟨a4, ?_⟩
      simp (disch := omega) only [c_bnd, c_chk, c_lb0, c_lb1, c_lb2, c_lb3, L0, L1, L2, L10007, nI_add, pk_mul, ile_t, ile_f, ilt_t, ilt_f, ieq_t, ieq_f, c_rmI, setF_at, setF_ne, setF_setF, true_and, up1_at, up1_ne, pk_sub, pk_cpy_in, pk_cpy_out, Nat.zero_add, Nat.add_zero, Nat.zero_mul, Nat.sub_zero, Nat.add_sub_cancel_left]
  · intro N4 d4
    show f_X7_joins_B44 _ _ _ _ _ _ _ _ = _
    unfold f_X7_joins_B44
    simp (disch := omega) only [c_bnd, c_chk, c_lb0, c_lb1, c_lb2, c_lb3, L0, L1, L2, L10007, nI_add, pk_mul, ile_t, ile_f, ilt_t, ilt_f, ieq_t, ieq_f, c_rmI, setF_at, setF_ne, setF_setF, true_and, up1_at, up1_ne, pk_sub, pk_cpy_in, pk_cpy_out, Nat.zero_add, Nat.add_zero, Nat.zero_mul, Nat.sub_zero, Nat.add_sub_cancel_left]
  intro N4 d4
  refine mx_lb0 (mx_for (fun c N' => pD N N' p q (cauA X Y) (fun i => i < X.1 + c) (fun i => i < X.1 + c) (fun _ i j => ¬ (i < X.1 ∧ X.1 + c ≤ j))) (s := 0) (e := Y.1) (by omega) (by omega) d4 ?_ ?_) ?_
  · intro c N5 _ hcc d5
    have hX5 := hX.fr hX12 d5.1 (by omega)
    have hY5 := hY.fr hY12 d5.1 (by omega)
    have k0 := hY5.1
    have k1 := (hY5.2 c hcc).1
    have k2 := (hY5.2 c hcc).2.1
    have k3 := pmul (okY c hcc).1 (wtA_lt (A := X) (v := X.2.1))
    have k6 : (cauA X Y).2.1 (X.1 + c) = Y.2.1 c * wtA X X.2.1 % 10007 := by
      show (if X.1 + c < X.1 then _ else _) = _
      rw [if_neg (by omega), Nat.add_sub_cancel_left]
    have k7 : (cauA X Y).2.2.1 (X.1 + c) = Y.2.2.1 c := by
      show (if X.1 + c < X.1 then _ else _) = _
      rw [if_neg (by omega), Nat.add_sub_cancel_left]
    show Mx (f_X7_joins_B114 _ _ _ _ _ _ _ _) _ _ _ _
    unfold f_X7_joins_B114
    simp (disch := omega) only [c_bnd, c_chk, c_lb0, c_lb1, c_lb2, c_lb3, L0, L1, L2, L10007, nI_add, pk_mul, ile_t, ile_f, ilt_t, ilt_f, ieq_t, ieq_f, c_rmI, setF_at, setF_ne, setF_setF, true_and, up1_at, up1_ne, pk_sub, pk_cpy_in, pk_cpy_out, Nat.zero_add, Nat.add_zero, Nat.zero_mul, Nat.sub_zero, Nat.add_sub_cancel_left, c_gfI h.ob, c_pfI h.ob, c_chkO h.ob, c_gfR h.ob h.rpool, c_ldI h.gpool, c_stI h.gpool, m_iAt, m_fAt, m_at, m_many h, L12, L13, L25, L144, L313, k0, k1, k2, m_empty h hx hX5 hX12 okX]
    refine mx_lb0 (mx_for (fun b N' => pD N N' p q (cauA X Y) (fun i => i < X.1 + (c + 1)) (fun i => i < X.1 + (c + 1)) (fun _ i j => ¬ (i < X.1 ∧ X.1 + c ≤ j) ∨ j = X.1 + c ∧ i < b)) (s := 0) (e := X.1) (by omega) (by omega) ?_ ?_ ?_) ?_
    · refine d5.put hc (fun z e => ?_) (fun i a b => ?_) (fun i a b => ?_) (fun l i j a1 a2 a3 a4 => ?_)
      · simp (disch := omega) only [c_bnd, c_chk, c_lb0, c_lb1, c_lb2, c_lb3, L0, L1, L2, L10007, nI_add, pk_mul, ile_t, ile_f, ilt_t, ilt_f, ieq_t, ieq_f, c_rmI, setF_at, setF_ne, setF_setF, true_and, up1_at, up1_ne, pk_sub, pk_cpy_in, pk_cpy_out, Nat.zero_add, Nat.add_zero, Nat.zero_mul, Nat.sub_zero, Nat.add_sub_cancel_left]
      · have a' : i < X.1 + Y.1 := a
        by_cases e : i = X.1 + c
        · subst e
          refine Or.inr ?_
          simp (disch := omega) only [c_bnd, c_chk, c_lb0, c_lb1, c_lb2, c_lb3, L0, L1, L2, L10007, nI_add, pk_mul, ile_t, ile_f, ilt_t, ilt_f, ieq_t, ieq_f, c_rmI, setF_at, setF_ne, setF_setF, true_and, up1_at, up1_ne, pk_sub, pk_cpy_in, pk_cpy_out, Nat.zero_add, Nat.add_zero, Nat.zero_mul, Nat.sub_zero, Nat.add_sub_cancel_left, k6]
        · refine Or.inl ⟨by omega, ?_⟩
          simp (disch := omega) only [c_bnd, c_chk, c_lb0, c_lb1, c_lb2, c_lb3, L0, L1, L2, L10007, nI_add, pk_mul, ile_t, ile_f, ilt_t, ilt_f, ieq_t, ieq_f, c_rmI, setF_at, setF_ne, setF_setF, true_and, up1_at, up1_ne, pk_sub, pk_cpy_in, pk_cpy_out, Nat.zero_add, Nat.add_zero, Nat.zero_mul, Nat.sub_zero, Nat.add_sub_cancel_left]
      · have a' : i < X.1 + Y.1 := a
        by_cases e : i = X.1 + c
        · subst e
          refine Or.inr ?_
          simp (disch := omega) only [c_bnd, c_chk, c_lb0, c_lb1, c_lb2, c_lb3, L0, L1, L2, L10007, nI_add, pk_mul, ile_t, ile_f, ilt_t, ilt_f, ieq_t, ieq_f, c_rmI, setF_at, setF_ne, setF_setF, true_and, up1_at, up1_ne, pk_sub, pk_cpy_in, pk_cpy_out, Nat.zero_add, Nat.add_zero, Nat.zero_mul, Nat.sub_zero, Nat.add_sub_cancel_left, k7]
        · refine Or.inl ⟨by omega, ?_⟩
          simp (disch := omega) only [c_bnd, c_chk, c_lb0, c_lb1, c_lb2, c_lb3, L0, L1, L2, L10007, nI_add, pk_mul, ile_t, ile_f, ilt_t, ilt_f, ieq_t, ieq_f, c_rmI, setF_at, setF_ne, setF_setF, true_and, up1_at, up1_ne, pk_sub, pk_cpy_in, pk_cpy_out, Nat.zero_add, Nat.add_zero, Nat.zero_mul, Nat.sub_zero, Nat.add_sub_cancel_left]
      · have a2' : i < X.1 + Y.1 := a2
        have a3' : j < X.1 + Y.1 := a3
        refine Or.inl ⟨by omega, ?_⟩
        simp (disch := omega) only [c_bnd, c_chk, c_lb0, c_lb1, c_lb2, c_lb3, L0, L1, L2, L10007, nI_add, pk_mul, ile_t, ile_f, ilt_t, ilt_f, ieq_t, ieq_f, c_rmI, setF_at, setF_ne, setF_setF, true_and, up1_at, up1_ne, pk_sub, pk_cpy_in, pk_cpy_out, Nat.zero_add, Nat.add_zero, Nat.zero_mul, Nat.sub_zero, Nat.add_sub_cancel_left]
    · intro b N6 _ hb d6
      have hX6 := hX.fr hX12 d6.1 (by omega)
      have hY6 := hY.fr hY12 d6.1 (by omega)
      have g1 := (hY6.2 c hcc).1
      have g2 := pmul (outA_lt (A := X) (l := 0) (i := b)) (okY c hcc).1
      have g3 := pmul (outA_lt (A := X) (l := 1) (i := b)) (okY c hcc).1
      have g4 := fun N' hh l hl => m_out (J := J) (N := N') (l := l) h hx hh hX12 okX hl hb
      have g5 : ∀ v, mAu (setF N6 (p + 1) (up1 (N6 (p + 1)) (313 * q + 25 + 144 * 0 + 12 * b + (X.1 + c)) v)) p x X := fun v => hX6.fr hX12 (frP.set (Nat.le_refl _) (Nat.lt_succ_self _)) (by omega)
      have g6 : ∀ l, (cauA X Y).2.2.2 l b (X.1 + c) = outA X l b * Y.2.1 c % 10007 := by
        intro l
        show (if b < X.1 ∧ X.1 + c < X.1 then _ else if X.1 ≤ b ∧ X.1 ≤ X.1 + c then _ else if b < X.1 then _ else _) = _
        rw [if_neg (by omega), if_neg (by omega), if_pos hb, Nat.add_sub_cancel_left]
      show Mx (f_X7_joins_B187 _ _ _ _ _ _ _ _ _) _ _ _ _
      unfold f_X7_joins_B187
      simp (disch := omega) only [c_bnd, c_chk, c_lb0, c_lb1, c_lb2, c_lb3, L0, L1, L2, L10007, nI_add, pk_mul, ile_t, ile_f, ilt_t, ilt_f, ieq_t, ieq_f, c_rmI, setF_at, setF_ne, setF_setF, true_and, up1_at, up1_ne, pk_sub, pk_cpy_in, pk_cpy_out, Nat.zero_add, Nat.add_zero, Nat.zero_mul, Nat.sub_zero, Nat.add_sub_cancel_left, c_gfI h.ob, c_pfI h.ob, c_chkO h.ob, c_gfR h.ob h.rpool, c_ldI h.gpool, c_stI h.gpool, m_iAt, m_fAt, m_at, m_many h, L12, L13, L25, L144, L313, g1, g4 _ hX6 0 (by omega), g4 _ (g5 _) 1 (by omega)]
      refine mx_eq rfl ?_
      refine d6.put hc (fun z e => ?_) (fun i a b => ?_) (fun i a b => ?_) (fun l i j a1 a2 a3 a4 => ?_)
      · simp (disch := omega) only [c_bnd, c_chk, c_lb0, c_lb1, c_lb2, c_lb3, L0, L1, L2, L10007, nI_add, pk_mul, ile_t, ile_f, ilt_t, ilt_f, ieq_t, ieq_f, c_rmI, setF_at, setF_ne, setF_setF, true_and, up1_at, up1_ne, pk_sub, pk_cpy_in, pk_cpy_out, Nat.zero_add, Nat.add_zero, Nat.zero_mul, Nat.sub_zero, Nat.add_sub_cancel_left]
      · have a' : i < X.1 + Y.1 := a
        refine Or.inl ⟨b, ?_⟩
        simp (disch := omega) only [c_bnd, c_chk, c_lb0, c_lb1, c_lb2, c_lb3, L0, L1, L2, L10007, nI_add, pk_mul, ile_t, ile_f, ilt_t, ilt_f, ieq_t, ieq_f, c_rmI, setF_at, setF_ne, setF_setF, true_and, up1_at, up1_ne, pk_sub, pk_cpy_in, pk_cpy_out, Nat.zero_add, Nat.add_zero, Nat.zero_mul, Nat.sub_zero, Nat.add_sub_cancel_left]
      · have a' : i < X.1 + Y.1 := a
        refine Or.inl ⟨b, ?_⟩
        simp (disch := omega) only [c_bnd, c_chk, c_lb0, c_lb1, c_lb2, c_lb3, L0, L1, L2, L10007, nI_add, pk_mul, ile_t, ile_f, ilt_t, ilt_f, ieq_t, ieq_f, c_rmI, setF_at, setF_ne, setF_setF, true_and, up1_at, up1_ne, pk_sub, pk_cpy_in, pk_cpy_out, Nat.zero_add, Nat.add_zero, Nat.zero_mul, Nat.sub_zero, Nat.add_sub_cancel_left]
      · have a2' : i < X.1 + Y.1 := a2
        have a3' : j < X.1 + Y.1 := a3
        by_cases e : i = b ∧ j = X.1 + c
        · obtain ⟨rfl, rfl⟩ := e
          refine Or.inr ?_
          rw [g6 l]
          rcases (by omega : l = 0 ∨ l = 1) with rfl | rfl
          · simp (disch := omega) only [c_bnd, c_chk, c_lb0, c_lb1, c_lb2, c_lb3, L0, L1, L2, L10007, nI_add, pk_mul, ile_t, ile_f, ilt_t, ilt_f, ieq_t, ieq_f, c_rmI, setF_at, setF_ne, setF_setF, true_and, up1_at, up1_ne, pk_sub, pk_cpy_in, pk_cpy_out, Nat.zero_add, Nat.add_zero, Nat.zero_mul, Nat.sub_zero, Nat.add_sub_cancel_left]
          · simp (disch := omega) only [c_bnd, c_chk, c_lb0, c_lb1, c_lb2, c_lb3, L0, L1, L2, L10007, nI_add, pk_mul, ile_t, ile_f, ilt_t, ilt_f, ieq_t, ieq_f, c_rmI, setF_at, setF_ne, setF_setF, true_and, up1_at, up1_ne, pk_sub, pk_cpy_in, pk_cpy_out, Nat.zero_add, Nat.add_zero, Nat.zero_mul, Nat.sub_zero, Nat.add_sub_cancel_left]
        · refine Or.inl ⟨by omega, ?_⟩
          rcases (by omega : l = 0 ∨ l = 1) with rfl | rfl
          · rw [up1_ne (by omega), up1_ne (by omega)]
          · rw [up1_ne (by omega), up1_ne (by omega)]
    · intro N6 d6
      show f_X7_joins_B187 _ _ _ _ _ _ _ _ _ = _
      unfold f_X7_joins_B187
      simp (disch := omega) only [c_bnd, c_chk, c_lb0, c_lb1, c_lb2, c_lb3, L0, L1, L2, L10007, nI_add, pk_mul, ile_t, ile_f, ilt_t, ilt_f, ieq_t, ieq_f, c_rmI, setF_at, setF_ne, setF_setF, true_and, up1_at, up1_ne, pk_sub, pk_cpy_in, pk_cpy_out, Nat.zero_add, Nat.add_zero, Nat.zero_mul, Nat.sub_zero, Nat.add_sub_cancel_left]
    · intro N6 d6
      exact mx_eq rfl (d6.mono (fun i _ e => e) (fun i _ e => e) (fun l i j _ _ _ e => by omega))
  · intro N5 d5
    have k0 := (hY.fr hY12 d5.1 (by omega)).1
    show f_X7_joins_B114 _ _ _ _ _ _ _ _ = _
    unfold f_X7_joins_B114
    simp (disch := omega) only [c_bnd, c_chk, c_lb0, c_lb1, c_lb2, c_lb3, L0, L1, L2, L10007, nI_add, pk_mul, ile_t, ile_f, ilt_t, ilt_f, ieq_t, ieq_f, c_rmI, setF_at, setF_ne, setF_setF, true_and, up1_at, up1_ne, pk_sub, pk_cpy_in, pk_cpy_out, Nat.zero_add, Nat.add_zero, Nat.zero_mul, Nat.sub_zero, Nat.add_sub_cancel_left, c_gfI h.ob, c_pfI h.ob, c_chkO h.ob, c_gfR h.ob h.rpool, c_ldI h.gpool, c_stI h.gpool, m_iAt, m_fAt, m_at, m_many h, L12, L13, L25, L144, L313, k0]
  · intro N5 d5
    refine mx_eq rfl ⟨d5.1, d5.toAu (fun i a => a) (fun i a => a) (fun l i j _ _ a => ?_)⟩
    have a' : j < X.1 + Y.1 := a
    omega
theorem m_canStar (h : mS Γ R p) (hx : x < 26) (hX : mAu N p x X) (hX12 : X.1 ≤ 12) (ok : okA X) : f_X7_canStar Γ p (nI x) (cS N R J) = some (nI (if X.1 < 12 ∧ wtA X X.2.1 = 0 then 1 else 0), cS N R J) := by
  have e0 := hX.1
  have e1 := wtA_lt (A := X) (v := X.2.1)
  unfold f_X7_canStar
  by_cases e2 : wtA X X.2.1 = 0
  · by_cases e : X.1 < 12
    · simp (disch := omega) only [c_bnd, c_chk, c_lb0, c_lb1, c_lb2, c_lb3, L0, L1, L2, L10007, nI_add, pk_mul, ile_t, ile_f, ilt_t, ilt_f, ieq_t, ieq_f, c_rmI, setF_at, setF_ne, setF_setF, true_and, up1_at, up1_ne, pk_sub, pk_cpy_in, pk_cpy_out, Nat.zero_add, Nat.add_zero, Nat.zero_mul, Nat.sub_zero, Nat.add_sub_cancel_left, c_gfI h.ob, c_pfI h.ob, c_chkO h.ob, c_gfR h.ob h.rpool, c_ldI h.gpool, c_stI h.gpool, m_iAt, m_fAt, m_at, m_many h, L12, L13, L25, L144, L313, e0, m_empty h hx hX hX12 ok, if_pos (And.intro e e2)]
      rfl
    · rw [if_neg (fun q => e q.1)]
      simp (disch := omega) only [c_bnd, c_chk, c_lb0, c_lb1, c_lb2, c_lb3, L0, L1, L2, L10007, nI_add, pk_mul, ile_t, ile_f, ilt_t, ilt_f, ieq_t, ieq_f, c_rmI, setF_at, setF_ne, setF_setF, true_and, up1_at, up1_ne, pk_sub, pk_cpy_in, pk_cpy_out, Nat.zero_add, Nat.add_zero, Nat.zero_mul, Nat.sub_zero, Nat.add_sub_cancel_left, c_gfI h.ob, c_pfI h.ob, c_chkO h.ob, c_gfR h.ob h.rpool, c_ldI h.gpool, c_stI h.gpool, m_iAt, m_fAt, m_at, m_many h, L12, L13, L25, L144, L313, e0, m_empty h hx hX hX12 ok]
      rfl
  · rw [if_neg (fun q => e2 q.2)]
    simp (disch := omega) only [c_bnd, c_chk, c_lb0, c_lb1, c_lb2, c_lb3, L0, L1, L2, L10007, nI_add, pk_mul, ile_t, ile_f, ilt_t, ilt_f, ieq_t, ieq_f, c_rmI, setF_at, setF_ne, setF_setF, true_and, up1_at, up1_ne, pk_sub, pk_cpy_in, pk_cpy_out, Nat.zero_add, Nat.add_zero, Nat.zero_mul, Nat.sub_zero, Nat.add_sub_cancel_left, c_gfI h.ob, c_pfI h.ob, c_chkO h.ob, c_gfR h.ob h.rpool, c_ldI h.gpool, c_stI h.gpool, m_iAt, m_fAt, m_at, m_many h, L12, L13, L25, L144, L313, e0, m_empty h hx hX hX12 ok]
    rfl
end MC
