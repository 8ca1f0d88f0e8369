/-! ===== the rank in the model ===== -/
theorem rk_stop {h : Nat} {G : Nat → Nat → Nat} {c : Nat} (e : h ≤ (rkS h G c).1) : ∀ m, rkS h G (c + m) = rkS h G c := by
  intro m
  induction m with
  | zero => rfl
  | succ m ih =>
    rw [show c + (m + 1) = (c + m) + 1 from rfl, rkS, ih, if_pos (Or.inr e)]
section MK
variable {Γ : zSh} {N : Mem} {R : Mem} {J : Nat → Nat → Int64} {p h w f i c : Nat} {G : Nat → Nat → Nat}
theorem m_elim (hm : mS Γ R p) (hh : h ≤ 31) (hw : w ≤ 31) (hf : f ≤ i) (hi : i < h) (hc : c < w) (b : ∀ k j, k < h → j < w → N (p + 12) (32 * k + j) < 10007) (hG : ∀ k j, f ≤ k → k < h → j < w → N (p + 12) (32 * k + j) = G k j) : Mx (f_X7_eliminates Γ p (nI i) (nI f) (nI c) (nI h) (nI w) (cS N R J)) (fun σ => ((), σ)) R J (fun N' => frA N N' (p + 12) (p + 13) ∧ (∀ k j, k < h → j < w → N' (p + 12) (32 * k + j) < 10007) ∧ ∀ k j, f < k → k < h → j < w → N' (p + 12) (32 * k + j) = gel G f i c k j) := by
  have g0 := hG i c hf hi hc
  have g1 := b i c hi hc
  rw [g0] at g1
  unfold f_X7_eliminates
  simp (disch := omega) only [c_bnd, c_chk, c_lb0, c_lb1, c_lb2, c_lb3, L0, L1, L2, L10007, nI_add, pk_mul, ile_t, ile_f, ilt_t, ilt_f, ieq_t, ieq_f, c_rmI, setF_at, setF_ne, setF_setF, true_and, up1_at, up1_ne, pk_sub, pk_cpy_in, pk_cpy_out, Nat.zero_add, Nat.add_zero, Nat.zero_mul, Nat.sub_zero, Nat.add_sub_cancel_left, c_gfI hm.ob, c_pfI hm.ob, c_chkO hm.ob, c_gfR hm.ob hm.rpool, c_ldI hm.gpool, c_stI hm.gpool, m_iAt, m_fAt, m_at, m_many hm, L12, L13, L25, L144, L313, c_gfR hm.ob hm.rgrid, c_ldI hm.ggrid, c_stI hm.ggrid, L32, g0, m_rcp g1]
  generalize hs : rcp (G i c) = s at *
  have hs2 : s < 10007 := by rw [← hs]; exact rcp_lt
  refine mx_lb0 (mx_for (fun d N' => frA N N' (p + 12) (p + 13) ∧ ∀ k j, k < h → j < w → N' (p + 12) (32 * k + j) = if j < d then (if k = f then G i j * s % 10007 else if k = i then G f j else N (p + 12) (32 * k + j)) else N (p + 12) (32 * k + j)) (s := 0) (e := w) (by omega) (by omega) ⟨frA.refl, fun k j _ _ => by rw [if_neg (by omega)]⟩ ?_ ?_) ?_
  · intro d N1 _ hd ⟨r1, r2⟩
    have e1 := r2 i d hi hd
    have e2 := r2 f d (by omega) hd
    rw [if_neg (Nat.lt_irrefl d)] at e1 e2
    rw [hG i d hf hi hd] at e1
    rw [hG f d (Nat.le_refl f) (by omega) hd] at e2
    have b1 := b i d hi hd
    rw [hG i d hf hi hd] at b1
    have m1 := pmul b1 hs2
    show Mx (f_X7_eliminates_B19 _ _ _ _ _ _ _ _ _ _) _ _ _ _
    unfold f_X7_eliminates_B19
    simp (disch := omega) only [c_bnd, c_chk, c_lb0, c_lb1, c_lb2, c_lb3, L0, L1, L2, L10007, nI_add, pk_mul, ile_t, ile_f, ilt_t, ilt_f, ieq_t, ieq_f, c_rmI, setF_at, setF_ne, setF_setF, true_and, up1_at, up1_ne, pk_sub, pk_cpy_in, pk_cpy_out, Nat.zero_add, Nat.add_zero, Nat.zero_mul, Nat.sub_zero, Nat.add_sub_cancel_left, c_gfI hm.ob, c_pfI hm.ob, c_chkO hm.ob, c_gfR hm.ob hm.rpool, c_ldI hm.gpool, c_stI hm.gpool, m_iAt, m_fAt, m_at, m_many hm, L12, L13, L25, L144, L313, c_gfR hm.ob hm.rgrid, c_ldI hm.ggrid, c_stI hm.ggrid, L32, e1, e2]
    refine mx_eq rfl ⟨r1.trans (frA.set (by omega) (by omega)), fun k j hk hj => ?_⟩
    rw [setF_at]
    by_cases e3 : j = d
    · subst e3
      by_cases e4 : k = f
      · subst e4
        rw [up1_at, if_pos (by omega), if_pos rfl]
      · rw [up1_ne (by omega), if_pos (by omega), if_neg e4]
        by_cases e5 : k = i
        · subst e5
          rw [up1_at, if_pos rfl]
        · rw [up1_ne (by omega), if_neg e5, r2 k j hk hj, if_neg (Nat.lt_irrefl j)]
    · rw [up1_ne (by omega), up1_ne (by omega), r2 k j hk hj]
      by_cases e6 : j < d
      · rw [if_pos e6, if_pos (by omega : j < d + 1)]
      · rw [if_neg e6, if_neg (by omega : ¬ j < d + 1)]
  · intro N1 _
    show f_X7_eliminates_B19 _ _ _ _ _ _ _ _ _ _ = _
    unfold f_X7_eliminates_B19
    simp (disch := omega) only [c_bnd, c_chk, c_lb0, c_lb1, c_lb2, c_lb3, L0, L1, L2, L10007, nI_add, pk_mul, ile_t, ile_f, ilt_t, ilt_f, ieq_t, ieq_f, c_rmI, setF_at, setF_ne, setF_setF, true_and, up1_at, up1_ne, pk_sub, pk_cpy_in, pk_cpy_out, Nat.zero_add, Nat.add_zero, Nat.zero_mul, Nat.sub_zero, Nat.add_sub_cancel_left]
  intro N1 ⟨r1, r2⟩
  have top : ∀ j, j < w → N1 (p + 12) (32 * f + j) = G i j * s % 10007 := fun j hj => by rw [r2 f j (by omega) hj, if_pos hj, if_pos rfl]
  have oth : ∀ k j, f < k → k < h → j < w → N1 (p + 12) (32 * k + j) = gsw G f i k j := fun k j h1 h2 h3 => by
    have hkf : ¬ k = f := by omega
    rw [r2 k j h2 h3, if_pos h3, if_neg hkf]
    unfold gsw
    rw [if_neg hkf]
    by_cases e5 : k = i
    · rw [if_pos e5, if_pos e5]
    · rw [if_neg e5, if_neg e5, hG k j (by omega) h2 h3]
  have b1 : ∀ k j, k < h → j < w → N1 (p + 12) (32 * k + j) < 10007 := fun k j h1 h2 => by
    rw [r2 k j h1 h2, if_pos h2]
    by_cases e4 : k = f
    · rw [if_pos e4]; exact mlt _
    · rw [if_neg e4]
      by_cases e5 : k = i
      · rw [if_pos e5, ← hG f j (Nat.le_refl f) (by omega) h2]; exact b f j (by omega) h2
      · rw [if_neg e5]; exact b k j h1 h2
  refine mx_lb0 (mx_for (fun d N' => frA N N' (p + 12) (p + 13) ∧ (∀ k j, k < h → j < w → N' (p + 12) (32 * k + j) < 10007) ∧ ∀ k j, k < h → j < w → N' (p + 12) (32 * k + j) = if f < k ∧ k < d then gel G f i c k j else N1 (p + 12) (32 * k + j)) (s := f + 1) (e := h) (by omega) (by omega) ⟨r1, b1, fun k j _ _ => by rw [if_neg (by omega)]⟩ ?_ ?_) ?_
  · intro d N2 hd1 hd2 ⟨s1, s2, s3⟩
    have t0 := s3 d c hd2 hc
    rw [if_neg (by omega), oth d c (by omega) hd2 hc] at t0
    have tb := s2 d c hd2 hc
    rw [t0] at tb
    have ttop : ∀ j, j < w → N2 (p + 12) (32 * f + j) = G i j * s % 10007 := fun j hj => by rw [s3 f j (by omega) hj, if_neg (by omega)]; exact top j hj
    have hgel : ∀ j, gel G f i c d j = (gsw G f i d j + gsw G f i d c * (10007 - s) % 10007 * G i j) % 10007 := fun j => by unfold gel; rw [if_pos (by omega), hs]
    show Mx (f_X7_eliminates_B96 _ _ _ _ _ _ _ _) _ _ _ _
    unfold f_X7_eliminates_B96
    simp (disch := omega) only [c_bnd, c_chk, c_lb0, c_lb1, c_lb2, c_lb3, L0, L1, L2, L10007, nI_add, pk_mul, ile_t, ile_f, ilt_t, ilt_f, ieq_t, ieq_f, c_rmI, setF_at, setF_ne, setF_setF, true_and, up1_at, up1_ne, pk_sub, pk_cpy_in, pk_cpy_out, Nat.zero_add, Nat.add_zero, Nat.zero_mul, Nat.sub_zero, Nat.add_sub_cancel_left, c_gfI hm.ob, c_pfI hm.ob, c_chkO hm.ob, c_gfR hm.ob hm.rpool, c_ldI hm.gpool, c_stI hm.gpool, m_iAt, m_fAt, m_at, m_many hm, L12, L13, L25, L144, L313, c_gfR hm.ob hm.rgrid, c_ldI hm.ggrid, c_stI hm.ggrid, L32, t0]
    by_cases e : gsw G f i d c = 0
    · rw [e, lb0_of (loop_for (fun k => (nI k, cS N2 R J)) (cS N2 R J) 0 rfl (by unfold FUEL; omega) (fun i hi => absurd hi (by omega)) ?_)]
      · refine mx_eq rfl ⟨s1, s2, fun k j hk hj => ?_⟩
        rw [s3 k j hk hj]
        by_cases e2 : k = d
        · subst e2
          rw [if_neg (by omega), if_pos (by omega), hgel, e, oth k j (by omega) hk hj]
          refine (el_0 ?_).symm
          rw [← oth k j (by omega) hk hj]
          exact b1 k j hk hj
        · by_cases e3 : f < k ∧ k < d
          · rw [if_pos e3, if_pos (by omega)]
          · rw [if_neg e3, if_neg (by omega)]
      · show f_X7_eliminates_B120 _ _ _ _ _ _ _ _ _ _ = _
        unfold f_X7_eliminates_B120
        by_cases e9 : w ≤ 0
        · simp (disch := omega) only [c_bnd, c_chk, c_lb0, c_lb1, c_lb2, c_lb3, L0, L1, L2, L10007, nI_add, pk_mul, ile_t, ile_f, ilt_t, ilt_f, ieq_t, ieq_f, c_rmI, setF_at, setF_ne, setF_setF, true_and, up1_at, up1_ne, pk_sub, pk_cpy_in, pk_cpy_out, Nat.zero_add, Nat.add_zero, Nat.zero_mul, Nat.sub_zero, Nat.add_sub_cancel_left]
        · simp (disch := omega) only [c_bnd, c_chk, c_lb0, c_lb1, c_lb2, c_lb3, L0, L1, L2, L10007, nI_add, pk_mul, ile_t, ile_f, ilt_t, ilt_f, ieq_t, ieq_f, c_rmI, setF_at, setF_ne, setF_setF, true_and, up1_at, up1_ne, pk_sub, pk_cpy_in, pk_cpy_out, Nat.zero_add, Nat.add_zero, Nat.zero_mul, Nat.sub_zero, Nat.add_sub_cancel_left]
    · refine mx_lb0 (mx_for (fun u N' => frA N N' (p + 12) (p + 13) ∧ (∀ k j, k < h → j < w → N' (p + 12) (32 * k + j) < 10007) ∧ ∀ k j, k < h → j < w → N' (p + 12) (32 * k + j) = if f < k ∧ (k < d ∨ k = d ∧ j < u) then gel G f i c k j else N1 (p + 12) (32 * k + j)) (s := 0) (e := w) (by omega) (by omega) ⟨s1, s2, fun k j hk hj => ?_⟩ ?_ ?_) ?_
      · rw [s3 k j hk hj]
        by_cases e3 : f < k ∧ k < d
        · rw [if_pos e3, if_pos (by omega)]
        · rw [if_neg e3, if_neg (by omega)]
      · intro u N3 _ hu ⟨v1, v2, v3⟩
        have x1 := v3 d u hd2 hu
        rw [if_neg (by omega), oth d u (by omega) hd2 hu] at x1
        have x2 := v3 f u (by omega) hu
        rw [if_neg (by omega), top u hu] at x2
        have x3 := v2 d u hd2 hu
        rw [x1] at x3
        have x4 : (10007 - gsw G f i d c) * (G i u * s % 10007) ≤ 10007 * 10006 := Nat.mul_le_mul (Nat.sub_le _ _) (Nat.le_of_lt_succ (mlt _))
        show Mx (f_X7_eliminates_B120 _ _ _ _ _ _ _ _ _ _) _ _ _ _
        unfold f_X7_eliminates_B120
        simp (disch := omega) only [c_bnd, c_chk, c_lb0, c_lb1, c_lb2, c_lb3, L0, L1, L2, L10007, nI_add, pk_mul, ile_t, ile_f, ilt_t, ilt_f, ieq_t, ieq_f, c_rmI, setF_at, setF_ne, setF_setF, true_and, up1_at, up1_ne, pk_sub, pk_cpy_in, pk_cpy_out, Nat.zero_add, Nat.add_zero, Nat.zero_mul, Nat.sub_zero, Nat.add_sub_cancel_left, c_gfI hm.ob, c_pfI hm.ob, c_chkO hm.ob, c_gfR hm.ob hm.rpool, c_ldI hm.gpool, c_stI hm.gpool, m_iAt, m_fAt, m_at, m_many hm, L12, L13, L25, L144, L313, c_gfR hm.ob hm.rgrid, c_ldI hm.ggrid, c_stI hm.ggrid, L32, x1, x2]
        refine mx_eq rfl ⟨v1.trans (frA.set (by omega) (by omega)), fun k j hk hj => ?_, fun k j hk hj => ?_⟩
        · rw [setF_at]
          by_cases e3 : 32 * k + j = 32 * d + u
          · rw [e3, up1_at]; exact mlt _
          · rw [up1_ne e3]; exact v2 k j hk hj
        · rw [setF_at]
          by_cases e3 : k = d ∧ j = u
          · obtain ⟨rfl, rfl⟩ := e3
            rw [up1_at, if_pos (by omega), hgel]
            exact el_eq (by omega) (by omega)
          · rw [up1_ne (by omega), v3 k j hk hj]
            by_cases e4 : f < k ∧ (k < d ∨ k = d ∧ j < u)
            · rw [if_pos e4, if_pos (by omega)]
            · rw [if_neg e4, if_neg (by omega)]
      · intro N3 _
        show f_X7_eliminates_B120 _ _ _ _ _ _ _ _ _ _ = _
        unfold f_X7_eliminates_B120
        simp (disch := omega) only [c_bnd, c_chk, c_lb0, c_lb1, c_lb2, c_lb3, L0, L1, L2, L10007, nI_add, pk_mul, ile_t, ile_f, ilt_t, ilt_f, ieq_t, ieq_f, c_rmI, setF_at, setF_ne, setF_setF, true_and, up1_at, up1_ne, pk_sub, pk_cpy_in, pk_cpy_out, Nat.zero_add, Nat.add_zero, Nat.zero_mul, Nat.sub_zero, Nat.add_sub_cancel_left]
      · intro N3 ⟨v1, v2, v3⟩
        refine mx_eq rfl ⟨v1, v2, fun k j hk hj => ?_⟩
        rw [v3 k j hk hj]
        by_cases e4 : f < k ∧ (k < d ∨ k = d ∧ j < w)
        · rw [if_pos e4, if_pos (by omega)]
        · rw [if_neg e4, if_neg (by omega)]
  · intro N2 _
    show f_X7_eliminates_B96 _ _ _ _ _ _ _ _ = _
    unfold f_X7_eliminates_B96
    simp (disch := omega) only [c_bnd, c_chk, c_lb0, c_lb1, c_lb2, c_lb3, L0, L1, L2, L10007, nI_add, pk_mul, ile_t, ile_f, ilt_t, ilt_f, ieq_t, ieq_f, c_rmI, setF_at, setF_ne, setF_setF, true_and, up1_at, up1_ne, pk_sub, pk_cpy_in, pk_cpy_out, Nat.zero_add, Nat.add_zero, Nat.zero_mul, Nat.sub_zero, Nat.add_sub_cancel_left]
  · intro N2 ⟨s1, s2, s3⟩
    exact mx_eq rfl ⟨s1, s2, fun k j h1 h2 h3 => by rw [s3 k j h2 h3, if_pos ⟨h1, h2⟩]⟩
end MK
