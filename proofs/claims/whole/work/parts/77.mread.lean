/-! ===== the model's calls that read, the rest ===== -/
section MRE
variable {Γ : zSh} {N N' R : Mem} {J : Nat → Nat → Int64} {p q : Nat} {S : tS} {x y z l b v w t : Int32} {A : Au}
theorem m_basisL (h : MI Γ N R p S) (hI : tI S) {P : Prop} [Decidable P] {r1 : Rs} (k : P → ∃ i v, y = nI i ∧ i < 24 ∧ N (p + 9) i = v ∧ r1 = (0, nI v, S)) : MX Γ N R J p (f_X7_basisWord_L41 Γ p y (nI (b01 P)) p (cS N R J)) (if P then r1 else (1, 0, S)) := by
  unfold f_X7_basisWord_L41 f_X7_basisWord_L59
  rw [c_chkO h.1.ob, show f_X7_goes Γ p (nI (b01 P)) 1 1 (cS N R J) = _ from m_goes h.1.ob (b2 := 1) (b3 := 1) b01_lt (by omega) (by omega), c_bnd]
  by_cases e : P
  · obtain ⟨i, v, rfl, hi, e1, rfl⟩ := k e
    obtain ⟨a, b, c⟩ := mg1 (v := 0) h
    have e2 : thr (b01 P) 1 1 = 0 := by rw [b01_t e]; rfl
    have e3 : setF N p (up1 (N p) 3 0) (p + 9) i = v := by rw [setF_ne (by omega)]; exact e1
    rw [e2, b01_t rfl, if_neg m1n0, if_pos e, c_gfR h.1.ob h.1.rwords (by omega), c_ldI h.1.gwords hi (by omega), e3]
    exact mx_read a hI c b mFr.refl rfl
  · obtain ⟨a, b, c⟩ := mg1 (v := 1) h
    have e2 : thr (b01 P) 1 1 = 1 := by rw [b01_f e]; rfl
    rw [e2, b01_f (by omega), if_pos m0e, if_neg e]
    exact ⟨_, J, _, rfl, a, b, c, fun u => absurd u Nat.one_ne_zero, fun _ _ => rfl⟩
theorem MX.of {N0 : Mem} {y : Option (Int32 × zSt)} {r : Rs} (h : MX Γ N R J p y r) (f : frA N0 N p (p + 17)) : MX Γ N0 R J p y r := by
  obtain ⟨N', J', v, h1, h2, h3, h4, h5, h6⟩ := h
  exact ⟨N', J', v, h1, h2, f.trans h3, h4, h5, h6⟩
theorem m_basisW (h : MI Γ N R p S) (hI : tI S) : MX Γ N R J p (f_X7_basisWord Γ p x y (cS N R J)) (rBasis S x y) := by
  unfold f_X7_basisWord f_X7_basisWord_L15 f_X7_basisWord_L40 rBasis
  rw [m_isSlot, c_bnd]
  by_cases e : inR x 0 3
  · rw [b01_t e, if_neg m1n0]
    rw [if2 (P := inR x 0 3), if_pos e]
    obtain ⟨e1, _, e2⟩ := ix_of e (by omega) (by omega)
    generalize ix x = q at *
    subst e1
    obtain ⟨b2, b3, b4⟩ := h.slot hI (q := q) (by omega)
    have hle := bI_le (expl_I b3)
    obtain ⟨N2, t0, t1, t2⟩ := m_spans (J := J) h.1 (show spS N p q (-1) (tcur S q) (tcur S q) from ⟨by omega, b2, b4, b3, Or.inl ⟨rfl, rfl⟩⟩)
    have h2 := h.fr hI t1.toFr
    rw [c_chkO h.1.ob, t0, c_bnd, if_neg m1n0, c_gfI h.1.ob, t2.1, m_in (l := 0) (h := ((expl (tcur S q)).1 : Int) - 1) (by decide) (nI_prd (by omega)), c_bnd]
    refine MX.of ?_ t1.toFr.2.2.2.2
    have fin := m_basisL (J := J) (y := y) h2 hI (P := inR y 0 (((expl (tcur S q)).1 : Int) - 1)) (r1 := (0, nI ((expl (tcur S q)).2.1 (ix y)), S)) (fun e3 => by
      obtain ⟨g1, _, g2⟩ := ix_of e3 (by omega) (by omega)
      exact ⟨ix y, _, g1, by omega, (t2.2 (ix y) (by omega)).1, rfl⟩)
    by_cases e3 : inR y 0 (((expl (tcur S q)).1 : Int) - 1)
    · rw [b01_t e3] at fin ⊢
      rw [if_neg m1n0]
      exact fin
    · rw [b01_f e3] at fin ⊢
      rw [if_pos m0e]
      exact fin
  · rw [b01_f e, if_pos m0e, if_pos m0e, if_neg (fun u : inR x 0 3 ∧ _ => e u.1)]
    have fin := m_basisL (J := J) (y := y) h hI (P := False) (r1 := (1, 0, S)) (fun e3 => e3.elim)
    rw [if_neg id] at fin
    exact fin
theorem m_hankel (h : MI Γ N R p S) (hI : tI S) : MX Γ N R J p (f_X7_hankelRank Γ p x w (cS N R J)) (rHankel S x w) := by
  unfold f_X7_hankelRank rHankel
  rw [m_isSlot, c_bnd, m_in (l := 0) (h := 31) (by decide) (by decide), c_bnd, c_chkO h.1.ob]
  refine mx_go2 h (fun e et N1 h1 h3 f1 => ?_)
  obtain ⟨e1, _, e2⟩ := ix_of e (by omega) (by omega)
  generalize ix x = q at *
  subst e1
  obtain ⟨b2, b3, b4⟩ := h1.slot hI (q := q) (by omega)
  obtain ⟨e5, _, e6⟩ := ix_of et (by omega) (by omega)
  generalize ix w = m at *
  subst e5
  have hm := h.1
  rw [L0]
  obtain ⟨N3, t0, h1', h3'⟩ := mx_for (J := J) (R := R) (f := fun q' => f_X7_hankelRank_B25 Γ p (nI q) (nI m) q'.1 q'.2) (N := N1) (fun d N' => frA N1 N' (p + 3) (p + 13) ∧ ∀ i j, i < d → j < m → N' (p + 12) (32 * i + j) = hkG (tcur S q) i j) (s := 0) (e := m) (by omega) (by omega) ⟨frA.refl, fun i j a _ => absurd a (by omega)⟩ (by
    intro i N2 _ hi ⟨g1, g3⟩
    show Mx (f_X7_hankelRank_B25 _ _ _ _ _ _) _ _ _ _
    unfold f_X7_hankelRank_B25
    simp (disch := omega) only [c_bnd, c_chk, c_lb0, c_lb1, c_lb2, c_lb3, L0, L1, L2, L10007, nI_add, pk_mul, ile_t, ile_f, ilt_t, ilt_f, ieq_t, ieq_f, c_rmI, setF_at, setF_ne, setF_setF, true_and, up1_at, up1_ne, pk_sub, pk_cpy_in, pk_cpy_out, Nat.zero_add, Nat.add_zero, Nat.zero_mul, Nat.sub_zero, Nat.add_sub_cancel_left]
    refine mx_lb0 (mx_for (fun d N' => frA N1 N' (p + 3) (p + 13) ∧ ∀ i' j, i' < i ∨ i' = i ∧ j < d → i' < m → j < m → N' (p + 12) (32 * i' + j) = hkG (tcur S q) i' j) (s := 0) (e := m) (by omega) (by omega) ⟨g1, fun i' j a _ c => g3 i' j (by omega) c⟩ ?_ ?_) ?_
    · intro j N4 _ hj ⟨k1, k3⟩
      show Mx (f_X7_hankelRank_B33 _ _ _ _ _ _ _) _ _ _ _
      unfold f_X7_hankelRank_B33
      rw [ile_f hj (by omega), c_chkO hm.ob]
      refine mx_bnd (m_lays0 hm (by omega) (b2.frA k1 (by omega)) b4) ?_
      intro N5 ⟨t1, t2⟩
      rw [c_chkO hm.ob]
      have k4 := k1.trans (t1.mono (by omega) (by omega) : frA N4 N5 (p + 3) (p + 13))
      refine mx_bnd (m_word hm (by omega) (b2.frA k4 (by omega)) b4 b3 t2 (fun j hj => (b3 j hj).1) (word := i) (by omega)) ?_
      intro N6 ⟨t3, t4⟩
      rw [c_chkO hm.ob]
      have k5 := k4.trans (t3.mono (by omega) (by omega) : frA N5 N6 (p + 3) (p + 13))
      refine mx_bnd (m_word hm (by omega) (b2.frA k5 (by omega)) b4 b3 t4 (fun j hj => vW_lt (fun j hj => (b3 j hj).1) hj) (word := j) (by omega)) ?_
      intro N7 ⟨t5, t6⟩
      have k6 := k5.trans (t5.mono (by omega) (by omega) : frA N6 N7 (p + 3) (p + 13))
      have e9 := m_ends0 (J := J) hm (by omega) (b2.frA k6 (by omega)) b4 b3 t6 (fun j hj => vW_lt (fun j hj => vW_lt (fun j hj => (b3 j hj).1) hj) hj)
      rw [c_gfR hm.ob hm.rgrid (by omega), c_chkO hm.ob, e9, c_bnd, show wtA (tcur S q) (vW (tcur S q) (vW (tcur S q) (tcur S q).2.1 (i + 1)) (j + 1)) = hkG (tcur S q) i j from rfl]
      simp (disch := omega) only [c_bnd, c_chk, c_lb0, c_lb1, c_lb2, c_lb3, L0, L1, L2, L10007, nI_add, pk_mul, ile_t, ile_f, ilt_t, ilt_f, ieq_t, ieq_f, c_rmI, setF_at, setF_ne, setF_setF, true_and, up1_at, up1_ne, pk_sub, pk_cpy_in, pk_cpy_out, Nat.zero_add, Nat.add_zero, Nat.zero_mul, Nat.sub_zero, Nat.add_sub_cancel_left, c_gfR hm.ob hm.rgrid, c_ldI hm.ggrid, c_stI hm.ggrid, L32]
      refine mx_eq rfl ⟨k6.trans (frA.set (by omega) (by omega)), fun i' j' c1 c2 c3 => ?_⟩
      rw [setF_at]
      by_cases e5 : i' = i ∧ j' = j
      · obtain ⟨rfl, rfl⟩ := e5
        exact up1_at
      · rw [up1_ne (by omega), t5 _ (by omega), t3 _ (by omega), t1 _ (by omega)]
        exact k3 i' j' (by omega) c2 c3
    · intro N4 _
      show f_X7_hankelRank_B33 _ _ _ _ _ _ _ = _
      unfold f_X7_hankelRank_B33
      simp (disch := omega) only [c_bnd, c_chk, c_lb0, c_lb1, c_lb2, c_lb3, L0, L1, L2, L10007, nI_add, pk_mul, ile_t, ile_f, ilt_t, ilt_f, ieq_t, ieq_f, c_rmI, setF_at, setF_ne, setF_setF, true_and, up1_at, up1_ne, pk_sub, pk_cpy_in, pk_cpy_out, Nat.zero_add, Nat.add_zero, Nat.zero_mul, Nat.sub_zero, Nat.add_sub_cancel_left]
    · intro N4 ⟨k1, k3⟩
      exact mx_eq rfl ⟨k1, fun i' j a c => k3 i' j (by omega) (by omega) c⟩) (by
    intro N2 _
    show f_X7_hankelRank_B25 _ _ _ _ _ _ = _
    unfold f_X7_hankelRank_B25
    simp (disch := omega) only [c_bnd, c_chk, c_lb0, c_lb1, c_lb2, c_lb3, L0, L1, L2, L10007, nI_add, pk_mul, ile_t, ile_f, ilt_t, ilt_f, ieq_t, ieq_f, c_rmI, setF_at, setF_ne, setF_setF, true_and, up1_at, up1_ne, pk_sub, pk_cpy_in, pk_cpy_out, Nat.zero_add, Nat.add_zero, Nat.zero_mul, Nat.sub_zero, Nat.add_sub_cancel_left])
  obtain ⟨N4, u0, u1⟩ := m_rank (J := J) hm (show m ≤ 31 by omega) (show m ≤ 31 by omega) (G := hkG (tcur S q)) h3' (fun k j _ _ => wtA_lt)
  rw [t0, c_lb0, c_chkO hm.ob, u0, c_bnd]
  exact mx_read h1 hI h3 f1 ((h1'.toFr (by omega) (by omega)).trans (u1.toFr (by omega) (by omega))) rfl
theorem m_lt (hm : mS Γ R p) {d : Nat} (hd : d ≤ 12) {g : Nat → Nat} (hg : ∀ k, k < 43 → N (p + 13) k = g k) : Mx (f_X7_laysTotals Γ p (nI d) (cS N R J)) (fun σ => ((), σ)) R J (fun N' => frA N N' (p + 12) (p + 13) ∧ ∀ n k, n < 31 → k < d + 1 → N' (p + 12) (32 * n + k) = g (n + k)) := by
  unfold f_X7_laysTotals
  rw [L0]
  refine mx_lb0 (mx_for (fun n N' => frA N N' (p + 12) (p + 13) ∧ ∀ n' k, n' < n → k < d + 1 → N' (p + 12) (32 * n' + k) = g (n' + k)) (s := 0) (e := 31) (by omega) (by omega) ⟨frA.refl, fun n' k e => absurd e (by omega)⟩ ?_ ?_) ?_
  · intro n N1 _ hn ⟨r1, r2⟩
    show Mx (f_X7_laysTotals_B2 _ _ _ _ _) _ _ _ _
    unfold f_X7_laysTotals_B2
    simp (disch := omega) only [c_bnd, c_chk, c_lb0, c_lb1, c_lb2, c_lb3, L0, L1, L2, L10007, nI_add, pk_mul, ile_t, ile_f, ilt_t, ilt_f, ieq_t, ieq_f, c_rmI, setF_at, setF_ne, setF_setF, true_and, up1_at, up1_ne, pk_sub, pk_cpy_in, pk_cpy_out, Nat.zero_add, Nat.add_zero, Nat.zero_mul, Nat.sub_zero, Nat.add_sub_cancel_left, L31]
    refine mx_lb0 (mx_for (fun k N' => frA N N' (p + 12) (p + 13) ∧ ∀ n' k', n' < n ∨ n' = n ∧ k' < k → n' < 31 → k' < d + 1 → N' (p + 12) (32 * n' + k') = g (n' + k')) (s := 0) (e := d + 1) (by omega) (by omega) ⟨r1, fun n' k' e _ hk => r2 n' k' (by omega) hk⟩ ?_ ?_) ?_
    · intro k N2 _ hk ⟨s1, s2⟩
      have e1 : N2 (p + 13) (n + k) = g (n + k) := by rw [s1 _ (by omega)]; exact hg _ (by omega)
      show Mx (f_X7_laysTotals_B10 _ _ _ _ _ _) _ _ _ _
      unfold f_X7_laysTotals_B10
      simp (disch := omega) only [c_bnd, c_chk, c_lb0, c_lb1, c_lb2, c_lb3, L0, L1, L2, L10007, nI_add, pk_mul, ile_t, ile_f, ilt_t, ilt_f, ieq_t, ieq_f, c_rmI, setF_at, setF_ne, setF_setF, true_and, up1_at, up1_ne, pk_sub, pk_cpy_in, pk_cpy_out, Nat.zero_add, Nat.add_zero, Nat.zero_mul, Nat.sub_zero, Nat.add_sub_cancel_left, c_gfI hm.ob, c_pfI hm.ob, c_chkO hm.ob, c_gfR hm.ob hm.rpool, c_ldI hm.gpool, c_stI hm.gpool, m_iAt, m_fAt, m_at, m_many hm, L12, L13, L25, L144, L313, c_gfR hm.ob hm.rgrid, c_ldI hm.ggrid, c_stI hm.ggrid, c_gfR hm.ob hm.rtotals, c_ldI hm.gtotals, c_stI hm.gtotals, L32, e1]
      refine mx_eq rfl ⟨s1.trans (frA.set (by omega) (by omega)), fun n' k' c1 c2 c3 => ?_⟩
      rw [setF_at]
      by_cases e5 : n' = n ∧ k' = k
      · obtain ⟨rfl, rfl⟩ := e5
        exact up1_at
      · rw [up1_ne (by omega)]
        exact s2 n' k' (by omega) c2 c3
    · intro N2 _
      show f_X7_laysTotals_B10 _ _ _ _ _ _ = _
      unfold f_X7_laysTotals_B10
      simp (disch := omega) only [c_bnd, c_chk, c_lb0, c_lb1, c_lb2, c_lb3, L0, L1, L2, L10007, nI_add, pk_mul, ile_t, ile_f, ilt_t, ilt_f, ieq_t, ieq_f, c_rmI, setF_at, setF_ne, setF_setF, true_and, up1_at, up1_ne, pk_sub, pk_cpy_in, pk_cpy_out, Nat.zero_add, Nat.add_zero, Nat.zero_mul, Nat.sub_zero, Nat.add_sub_cancel_left]
    · intro N2 ⟨s1, s2⟩
      exact mx_eq rfl ⟨s1, fun n' k e c => s2 n' k (by omega) (by omega) c⟩
  · intro N1 _
    show f_X7_laysTotals_B2 _ _ _ _ _ = _
    unfold f_X7_laysTotals_B2
    simp (disch := omega) only [c_bnd, c_chk, c_lb0, c_lb1, c_lb2, c_lb3, L0, L1, L2, L10007, nI_add, pk_mul, ile_t, ile_f, ilt_t, ilt_f, ieq_t, ieq_f, c_rmI, setF_at, setF_ne, setF_setF, true_and, up1_at, up1_ne, pk_sub, pk_cpy_in, pk_cpy_out, Nat.zero_add, Nat.add_zero, Nat.zero_mul, Nat.sub_zero, Nat.add_sub_cancel_left, L31]
  · intro N1 ⟨r1, r2⟩
    exact mx_eq rfl ⟨r1, r2⟩
theorem m_recurs (h : MI Γ N R p S) (hI : tI S) : MX Γ N R J p (f_X7_recurs Γ p x w (cS N R J)) (rRecurs S x w) := by
  unfold f_X7_recurs f_X7_recurs_L98 rRecurs
  rw [m_isSlot, c_bnd, m_in (l := 1) (h := 12) (by decide) (by decide), c_bnd, c_chkO h.1.ob]
  refine mx_go2 h (fun e et N1 h1 h3 f1 => ?_)
  obtain ⟨e1, _, e2⟩ := ix_of e (by omega) (by omega)
  generalize ix x = q at *
  subst e1
  obtain ⟨b2, b3, b4⟩ := h1.slot hI (q := q) (by omega)
  obtain ⟨e5, e7, e6⟩ := ix_of et (by omega) (by omega)
  generalize ix w = d at *
  subst e5
  have hm := h.1
  obtain ⟨N2, t0, t1, t2⟩ := m_lays0 (J := J) hm (by omega) b2 b4
  rw [c_chkO hm.ob, t0, c_bnd, L0]
  obtain ⟨N3, u0, u1, u2, u3⟩ := mx_for (J := J) (R := R) (f := fun q' => f_X7_recurs_B31 Γ p (nI q) (nI d) q'.1 q'.2) (N := N2) (fun k N' => frA N1 N' (p + 3) (p + 14) ∧ (∀ j, j < (tcur S q).1 → N' (p + 3) j = ttV (tcur S q) k j) ∧ ∀ k', k' < k → N' (p + 13) k' = wtA (tcur S q) (ttV (tcur S q) k')) (s := 0) (e := 43) (by omega) (by omega) ⟨t1.mono (by omega) (by omega), t2, fun k' e => absurd e (by omega)⟩ (by
    intro k N4 _ hk ⟨g1, g2, g3⟩
    have e9 := m_ends0 (J := J) hm (by omega) (b2.frA g1 (by omega)) b4 b3 g2 (ttV_lt b3 k)
    show Mx (f_X7_recurs_B31 _ _ _ _ _ _) _ _ _ _
    unfold f_X7_recurs_B31
    rw [L43, ile_f hk (by omega), c_gfR hm.ob hm.rtotals (by omega), c_chkO hm.ob, e9, c_bnd, c_stI hm.gtotals hk (by omega), c_chkO hm.ob, L2]
    have g1' := g1.trans (frA.set (N := N4) (a := p + 13) (lo := p + 3) (hi := p + 14) (g := up1 (N4 (p + 13)) k (wtA (tcur S q) (ttV (tcur S q) k))) (by omega) (by omega))
    refine mx_bnd (m_pass0 hm (by omega) (b2.frA g1' (by omega)) b4 b3 (fun j hj => by rw [setF_ne (by omega)]; exact g2 j hj) (ttV_lt b3 k) (c := 2) (by omega)) ?_
    intro N5 ⟨v1, v2⟩
    rw [L1, nI_add]
    refine mx_eq rfl ⟨g1'.trans (v1.mono (by omega) (by omega)), v2, fun k' hk' => ?_⟩
    rw [v1 _ (by omega), setF_at]
    by_cases e : k' = k
    · subst e
      exact up1_at
    · rw [up1_ne e]
      exact g3 k' (by omega)) (by
    intro N4 _
    show f_X7_recurs_B31 _ _ _ _ _ _ = _
    unfold f_X7_recurs_B31
    simp (disch := omega) only [c_bnd, c_chk, c_lb0, c_lb1, c_lb2, c_lb3, L0, L1, L2, L10007, nI_add, pk_mul, ile_t, ile_f, ilt_t, ilt_f, ieq_t, ieq_f, c_rmI, setF_at, setF_ne, setF_setF, true_and, up1_at, up1_ne, pk_sub, pk_cpy_in, pk_cpy_out, Nat.zero_add, Nat.add_zero, Nat.zero_mul, Nat.sub_zero, Nat.add_sub_cancel_left, L43])
  rw [u0, c_lb0, c_chkO hm.ob]
  obtain ⟨N4, v0, v1, v2⟩ := m_lt (J := J) hm (d := d) (by omega) (g := fun k => wtA (tcur S q) (ttV (tcur S q) k)) u3
  obtain ⟨N5, w0, w1⟩ := m_rank (J := J) hm (h := 31) (w := d) (by omega) (by omega) (G := rcG (tcur S q)) (fun k j hk hj => v2 k j hk (by omega)) (fun k j _ _ => wtA_lt)
  rw [v0, c_bnd, c_chkO hm.ob, L31, w0, c_bnd, c_chkO hm.ob]
  have q3 : ∀ k, k < 43 → N5 (p + 13) k = wtA (tcur S q) (ttV (tcur S q) k) := fun k hk => by rw [w1 _ (by omega), v1 _ (by omega)]; exact u3 k hk
  obtain ⟨N6, x0, x1, x2⟩ := m_lt (J := J) hm (d := d) (by omega) (g := fun k => wtA (tcur S q) (ttV (tcur S q) k)) q3
  obtain ⟨N7, y0, y1⟩ := m_rank (J := J) hm (h := 31) (w := d + 1) (by omega) (by omega) (G := rcG (tcur S q)) (fun k j hk hj => x2 k j hk hj) (fun k j _ _ => wtA_lt)
  rw [x0, c_bnd, c_chkO hm.ob, L1, nI_add, y0, c_bnd]
  have fr : frA N1 N7 (p + 3) (p + 14) := u1.trans ((v1.mono (by omega) (by omega)).trans ((w1.mono (by omega) (by omega)).trans ((x1.mono (by omega) (by omega)).trans (y1.mono (by omega) (by omega)))))
  have l1 := (rk_le (h := 31) (G := rcG (tcur S q)) d).1
  have l2 := (rk_le (h := 31) (G := rcG (tcur S q)) (d + 1)).1
  by_cases e9 : (rkS 31 (rcG (tcur S q)) (d + 1)).1 = (rkS 31 (rcG (tcur S q)) d).1
  · rw [if_pos e9, ieq_t e9]
    exact mx_read h1 hI h3 f1 (fr.toFr (by omega) (by omega)) rfl
  · rw [if_neg e9, ieq_f e9 (by omega) (by omega)]
    exact mx_read h1 hI h3 f1 (fr.toFr (by omega) (by omega)) rfl
theorem m_digest (h : MI Γ N R p S) (hI : tI S) : ∃ N', f_X7_digest Γ p (cS N R J) = some (31 * dgS S 4 + (nI S.1.1).toInt64, cS N' R J) ∧ MI Γ N' R p S ∧ frA N N' p (p + 17) := by
  have hm := h.1
  obtain ⟨h1, f1, h3⟩ := mg1 (v := 0) h
  generalize hN : setF N p (up1 (N p) 3 0) = N1 at *
  unfold f_X7_digest
  rw [L0, c_pfI hm.ob, hN, c_gfI hm.ob, h1.2.2.1, show 93589 + (nI S.2.1).toInt64 = dgS S 0 from rfl]
  obtain ⟨N3, t0, g1⟩ := mx_for1 (J := J) (R := R) (f := fun q' => f_X7_digest_B17 Γ p q'.1 q'.2.1 q'.2.2) (N := N1) (dgS S) (fun k N' => mFr N1 N' p) (s := 0) (e := 4) (by omega) (by omega) mFr.refl (by
    intro k N2 _ hk g1
    have h2 := h1.fr hI g1
    obtain ⟨b2, b3, b4⟩ := h2.slot hI hk
    show Mx (f_X7_digest_B17 _ _ _ _ _) _ _ _ _
    unfold f_X7_digest_B17
    rw [L4, ile_f hk (by omega), c_chkO hm.ob]
    refine mx_bnd (m_sumsSlot hm (by omega) b2 b4 b3) ?_
    intro N4 ⟨s1, s2⟩
    rw [L1, nI_add]
    exact mx_eq rfl (g1.trans (s1.toFr (fun z hz => s2 z (by omega) (by omega))))) (by
    intro N2 _
    show f_X7_digest_B17 _ _ _ _ _ = _
    unfold f_X7_digest_B17
    rw [L4, ile_t (by omega) (by omega)])
  have h4 := h1.fr hI g1
  rw [show (loopM (fun q' => f_X7_digest_B17 Γ p q'.1 q'.2.1 q'.2.2) FUEL (dgS S 0, nI 0, cS N1 R J)) = _ from t0, c_lb1, c_gfI hm.ob, h4.2.1.1]
  exact ⟨N3, rfl, h4, f1.trans g1.2.2.2.2⟩
end MRE
