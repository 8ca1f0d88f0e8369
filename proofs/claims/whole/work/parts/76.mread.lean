/-! ===== the model's calls that read ===== -/
section MRD
variable {Γ : zSh} {N N' R : Mem} {J : Nat → Nat → Int64} {p q : Nat} {S : tS} {x y z l b v w t : Int32} {A : Au}
theorem m1n0 : ¬ nI 1 = (0 : Int32) := by decide
theorem m0e : nI 0 = (0 : Int32) := id rfl
theorem nI_prd {n : Nat} (h : n < 2147483648) : ((nI n - 1).toInt64).toInt = (n : Int) - 1 := by
  rw [Int32.toInt_toInt64]
  by_cases e : n = 0
  · subst e
    decide
  · rw [show (1 : Int32) = nI 1 from rfl, pk_sub (by omega), nI_toInt (by omega)]
    omega
theorem m_states (h : MI Γ N R p S) (hI : tI S) : MX Γ N R J p (f_X7_states Γ p x (cS N R J)) (rStates S x) := by
  unfold f_X7_states f_X7_states_L22 rStates
  rw [m_isSlot, c_bnd, c_chkO h.1.ob]
  refine mx_go1 h (fun e N1 h1 h3 f1 => ?_)
  obtain ⟨e1, _, e2⟩ := ix_of e (by omega) (by omega)
  generalize ix x = q at *
  subst e1
  obtain ⟨b2, b3, b4⟩ := h1.slot hI (q := q) (by omega)
  rw [c_chkO h.1.ob, m_many h.1 (by omega), b2.1, c_bnd]
  exact mx_read h1 hI h3 f1 mFr.refl rfl
theorem m_isState (h : MI Γ N R p S) (hI : tI S) : f_X7_isState Γ p x y (cS N R J) = some (nI (b01 (isSt S x y)), cS N R J) := by
  unfold f_X7_isState f_X7_isState_L28 f_X7_isState_L29
  rw [m_isSlot, c_bnd]
  by_cases e : inR x 0 3
  · rw [b01_t e, if_neg m1n0]
    obtain ⟨e1, _, e2⟩ := ix_of e (by omega) (by omega)
    have hb : b01 (isSt S x y) = b01 (inR y 0 (((tcur S (ix x)).1 : Int) - 1)) := by
      by_cases e3 : inR y 0 (((tcur S (ix x)).1 : Int) - 1)
      · rw [b01_t e3, b01_t (show isSt S x y from ⟨e, e3⟩)]
      · rw [b01_f e3, b01_f (show ¬ isSt S x y from fun u => e3 u.2)]
    rw [hb]
    clear hb
    generalize ix x = q at *
    subst e1
    obtain ⟨b2, b3, b4⟩ := h.slot hI (q := q) (by omega)
    rw [c_chkO h.1.ob, m_many h.1 (by omega), b2.1, c_bnd, m_in (l := 0) (h := ((tcur S q).1 : Int) - 1) (by decide) (nI_prd (by omega)), c_bnd]
    by_cases e3 : inR y 0 (((tcur S q).1 : Int) - 1)
    · rw [b01_t e3, if_neg m1n0]
      rfl
    · rw [b01_f e3, if_pos m0e]
      rfl
  · rw [b01_f e, if_pos m0e, b01_f (show ¬ isSt S x y from fun u => e u.1)]
    rfl
theorem m_isStep (h : MI Γ N R p S) (hI : tI S) : f_X7_isStep Γ p x l y z (cS N R J) = some (nI (b01 (isTr S x l y z)), cS N R J) := by
  unfold f_X7_isStep f_X7_isStep_L33 f_X7_isStep_L34
  rw [c_chkO h.1.ob, m_isState h hI, c_bnd]
  by_cases e1 : isSt S x y
  · rw [b01_t e1, if_neg m1n0, c_chkO h.1.ob, m_isState h hI, c_bnd]
    by_cases e2 : isSt S x z
    · rw [b01_t e2, if_neg m1n0, m_in (l := 0) (h := 1) (by decide) (by decide), c_bnd]
      by_cases e3 : inR l 0 1
      · rw [b01_t e3, if_neg m1n0, b01_t (show isTr S x l y z from ⟨e1, e2, e3⟩)]
        rfl
      · rw [b01_f e3, if_pos m0e, b01_f (show ¬ isTr S x l y z from fun u => e3 u.2.2)]
        rfl
    · rw [b01_f e2, if_pos m0e, b01_f (show ¬ isTr S x l y z from fun u => e2 u.2.1)]
      rfl
  · rw [b01_f e1, if_pos m0e, b01_f (show ¬ isTr S x l y z from fun u => e1 u.1)]
    rfl
theorem m_end (h : MI Γ N R p S) (hI : tI S) : MX Γ N R J p (f_X7_end Γ p x y b (cS N R J)) (rEnd S x y b) := by
  unfold f_X7_end f_X7_end_L41 f_X7_end_L36 f_X7_end_L41 rEnd
  rw [c_chkO h.1.ob, m_isState h hI, c_bnd, c_chkO h.1.ob]
  refine mx_go1 h (fun e N1 h1 h3 f1 => ?_)
  obtain ⟨ex, ey⟩ := e
  obtain ⟨e1, _, e2⟩ := ix_of ex (by omega) (by omega)
  generalize ix x = q at *
  subst e1
  obtain ⟨b2, b3, b4⟩ := h1.slot hI (q := q) (by omega)
  obtain ⟨e3, _, e4⟩ := ix_of ey (by omega) (by omega)
  generalize ix y = i at *
  subst e3
  have hi : i < (tcur S q).1 := by omega
  refine mx_read h1 hI h3 f1 mFr.refl ?_
  unfold getE
  by_cases e4 : b = 0
  · simp only [e4, if_true]
    simp (disch := omega) only [c_bnd, c_chk, c_lb0, c_lb1, c_lb2, c_lb3, L0, L1, L2, L10007, nI_add, pk_mul, ile_t, ile_f, ilt_t, ilt_f, ieq_t, ieq_f, c_rmI, setF_at, setF_ne, setF_setF, true_and, up1_at, up1_ne, pk_sub, pk_cpy_in, pk_cpy_out, Nat.zero_add, Nat.add_zero, Nat.zero_mul, Nat.sub_zero, Nat.add_sub_cancel_left, c_gfI h.1.ob, c_pfI h.1.ob, c_chkO h.1.ob, c_gfR h.1.ob h.1.rpool, c_ldI h.1.gpool, c_stI h.1.gpool, m_iAt, m_fAt, m_at, m_many h.1, L12, L13, L25, L144, L313, (b2.2 i hi).1]
  · simp only [e4, if_false]
    simp (disch := omega) only [c_bnd, c_chk, c_lb0, c_lb1, c_lb2, c_lb3, L0, L1, L2, L10007, nI_add, pk_mul, ile_t, ile_f, ilt_t, ilt_f, ieq_t, ieq_f, c_rmI, setF_at, setF_ne, setF_setF, true_and, up1_at, up1_ne, pk_sub, pk_cpy_in, pk_cpy_out, Nat.zero_add, Nat.add_zero, Nat.zero_mul, Nat.sub_zero, Nat.add_sub_cancel_left, c_gfI h.1.ob, c_pfI h.1.ob, c_chkO h.1.ob, c_gfR h.1.ob h.1.rpool, c_ldI h.1.gpool, c_stI h.1.gpool, m_iAt, m_fAt, m_at, m_many h.1, L12, L13, L25, L144, L313, (b2.2 i hi).2.1]
theorem m_stepC (h : MI Γ N R p S) (hI : tI S) : MX Γ N R J p (f_X7_step Γ p x l y z (cS N R J)) (rStep S x l y z) := by
  unfold f_X7_step f_X7_step_L35 rStep
  rw [c_chkO h.1.ob, m_isStep h hI, c_bnd, c_chkO h.1.ob]
  refine mx_go1 h (fun e N1 h1 h3 f1 => ?_)
  obtain ⟨⟨ex, ey⟩, ⟨_, ez⟩, el⟩ := e
  obtain ⟨e1, _, e2⟩ := ix_of ex (by omega) (by omega)
  generalize ix x = q at *
  subst e1
  obtain ⟨b2, b3, b4⟩ := h1.slot hI (q := q) (by omega)
  obtain ⟨f1', _, f2⟩ := ix_of ey (by omega) (by omega)
  generalize ix y = i at *
  subst f1'
  obtain ⟨f3, _, f4⟩ := ix_of ez (by omega) (by omega)
  generalize ix z = j at *
  subst f3
  obtain ⟨f5, _, f6⟩ := ix_of el (by omega) (by omega)
  generalize ix l = c at *
  subst f5
  have hi : i < (tcur S q).1 := by omega
  have hj : j < (tcur S q).1 := by omega
  have hc : c < 2 := by omega
  refine mx_read h1 hI h3 f1 mFr.refl ?_
  simp (disch := omega) only [c_bnd, c_chk, c_lb0, c_lb1, c_lb2, c_lb3, L0, L1, L2, L10007, nI_add, pk_mul, ile_t, ile_f, ilt_t, ilt_f, ieq_t, ieq_f, c_rmI, setF_at, setF_ne, setF_setF, true_and, up1_at, up1_ne, pk_sub, pk_cpy_in, pk_cpy_out, Nat.zero_add, Nat.add_zero, Nat.zero_mul, Nat.sub_zero, Nat.add_sub_cancel_left, c_gfI h.1.ob, c_pfI h.1.ob, c_chkO h.1.ob, c_gfR h.1.ob h.1.rpool, c_ldI h.1.gpool, c_stI h.1.gpool, m_iAt, m_fAt, m_at, m_many h.1, L12, L13, L25, L144, L313, (b2.2 i hi).2.2 j c hj hc]
theorem m_weight (h : MI Γ N R p S) (hI : tI S) : MX Γ N R J p (f_X7_weight Γ p x w (cS N R J)) (rWeight S x w) := by
  unfold f_X7_weight f_X7_weight_L31 rWeight
  rw [m_isSlot, c_bnd, m_in (l := 0) (h := 1000000) (by decide) (by decide), c_bnd, c_chkO h.1.ob]
  refine mx_go2 h (fun e ew N1 h1 h3 f1 => ?_)
  obtain ⟨e1, _, e2⟩ := ix_of e (by omega) (by omega)
  generalize ix x = q at *
  subst e1
  obtain ⟨b2, b3, b4⟩ := h1.slot hI (q := q) (by omega)
  obtain ⟨e3, _, e4⟩ := ix_of ew (by omega) (by omega)
  generalize ix w = c at *
  subst e3
  obtain ⟨N2, t0, t1⟩ := m_weighs (J := J) h.1 (by omega) b2 b4 b3 (word := c) (by omega)
  rw [c_chkO h.1.ob, t0, c_bnd]
  exact mx_read h1 hI h3 f1 (t1.toFr (by omega) (by omega)) rfl
theorem m_lays0 (h : mS Γ R p) (hx : q < 26) (hX : mAu N p q A) (hX12 : A.1 ≤ 12) : Mx (f_X7_laysInitial Γ p (nI q) 0 (cS N R J)) (fun σ => ((), σ)) R J (fun N' => frA N N' (p + 3) (p + 5) ∧ ∀ z, z < A.1 → N' (p + 3) z = A.2.1 z) := by
  refine mx_mono (m_lays h hx hX hX12 (o := 0) (by omega)) ?_
  intro N1 ⟨t1, t2⟩
  exact ⟨t1.mono (by omega) (by omega), fun z hz => by rw [t2 z, if_pos (by omega)]; rfl⟩
theorem m_ends0 (h : mS Γ R p) (hx : q < 26) (hX : mAu N p q A) (hX12 : A.1 ≤ 12) (ok : okA A) {u : Nat → Nat} (hu : ∀ i, i < A.1 → N (p + 3) i = u i) (b : ∀ i, i < A.1 → u i < 10007) : f_X7_ends Γ p (nI q) 0 (cS N R J) = some (nI (wtA A u), cS N R J) := by
  have := m_ends (J := J) h hx hX hX12 ok (o := 0) (by omega) (fun i hi => by rw [Nat.zero_add, hu i hi]; exact b i hi)
  rw [show wtA A u = wtA A (fun i => N (p + 3) (0 + i)) from (wtA_congr (fun i hi => by rw [Nat.zero_add]; exact hu i hi)).symm]
  exact this
theorem m_pass0 (h : mS Γ R p) (hx : q < 26) (hX : mAu N p q A) (hX12 : A.1 ≤ 12) (ok : okA A) {u : Nat → Nat} (hu : ∀ i, i < A.1 → N (p + 3) i = u i) (b : ∀ i, i < A.1 → u i < 10007) {c : Nat} (hc : c < 3) : Mx (f_X7_passes Γ p (nI q) 0 (nI c) (cS N R J)) (fun σ => ((), σ)) R J (fun N' => frA N N' (p + 3) (p + 5) ∧ ∀ z, z < A.1 → N' (p + 3) z = stpB A c u z) := by
  refine mx_mono (m_passes h hx hX hX12 ok (o := 0) (l := c) (by omega) hc (fun i hi => by rw [Nat.zero_add, hu i hi]; exact b i hi)) ?_
  intro N1 ⟨t1, t2⟩
  refine ⟨t1, fun z hz => ?_⟩
  rw [t2 z, if_pos (by omega)]
  exact stpB_congr (fun i hi => by rw [Nat.zero_add]; exact hu i hi)
theorem m_power (h : MI Γ N R p S) (hI : tI S) : MX Γ N R J p (f_X7_powerWeight Γ p x w t (cS N R J)) (rPower S x w t) := by
  have e0 : f_X7_powerWeight Γ p x w t (cS N R J) = f_X7_powerWeight_L34 Γ p x w t (nI (b01 (inR w 0 1000000 ∧ inR t 0 200))) (nI (b01 (inR x 0 3))) p (cS N R J) := by
    unfold f_X7_powerWeight f_X7_powerWeight_L33
    rw [m_isSlot, c_bnd, m_in (l := 0) (h := 1000000) (by decide) (by decide), c_bnd]
    by_cases e1 : inR w 0 1000000
    · rw [b01_t e1, if_neg m1n0, m_in (l := 0) (h := 200) (by decide) (by decide), c_bnd]
      by_cases e2 : inR t 0 200
      · rw [b01_t e2, if_neg m1n0, b01_t (And.intro e1 e2)]
        rfl
      · rw [b01_f e2, if_pos m0e, b01_f (fun u : inR w 0 1000000 ∧ inR t 0 200 => e2 u.2)]
        rfl
    · rw [b01_f e1, if_pos m0e, b01_f (fun u : inR w 0 1000000 ∧ inR t 0 200 => e1 u.1)]
      rfl
  rw [e0]
  unfold f_X7_powerWeight_L34 rPower
  rw [c_chkO h.1.ob]
  refine mx_go2 h (fun e ⟨ew, et⟩ N1 h1 h3 f1 => ?_)
  obtain ⟨e1, _, e2⟩ := ix_of e (by omega) (by omega)
  generalize ix x = q at *
  subst e1
  obtain ⟨b2, b3, b4⟩ := h1.slot hI (q := q) (by omega)
  obtain ⟨e3, _, e4⟩ := ix_of ew (by omega) (by omega)
  generalize ix w = c at *
  subst e3
  obtain ⟨e5, _, e6⟩ := ix_of et (by omega) (by omega)
  generalize ix t = m at *
  subst e5
  obtain ⟨N2, t0, t1, t2⟩ := m_lays0 (J := J) h.1 (by omega) b2 b4
  rw [c_chkO h.1.ob, t0, c_bnd, L0]
  obtain ⟨N3, u0, u1, u2⟩ := mx_for (J := J) (R := R) (f := fun q' => f_X7_powerWeight_B52 Γ p (nI q) (nI c) (nI m) q'.1 q'.2) (N := N2) (fun k N' => frA N1 N' (p + 3) (p + 5) ∧ ∀ j, j < (tcur S q).1 → N' (p + 3) j = pwV (tcur S q) (c + 1) k j) (s := 0) (e := m) (by omega) (by omega) ⟨t1, t2⟩ (by
    intro k N4 _ hk ⟨g1, g2⟩
    show Mx (f_X7_powerWeight_B52 _ _ _ _ _ _ _) _ _ _ _
    unfold f_X7_powerWeight_B52
    simp (disch := omega) only [c_bnd, c_chk, c_lb0, c_lb1, c_lb2, c_lb3, L0, L1, L2, L10007, nI_add, pk_mul, ile_t, ile_f, ilt_t, ilt_f, ieq_t, ieq_f, c_rmI, setF_at, setF_ne, setF_setF, true_and, up1_at, up1_ne, pk_sub, pk_cpy_in, pk_cpy_out, Nat.zero_add, Nat.add_zero, Nat.zero_mul, Nat.sub_zero, Nat.add_sub_cancel_left, c_chkO h.1.ob]
    refine mx_bnd (m_word h.1 (by omega) (b2.frA g1 (by omega)) b4 b3 g2 (pwV_lt b3 k) (word := c) (by omega)) ?_
    intro N5 ⟨v1, v2⟩
    exact mx_eq rfl ⟨g1.trans v1, v2⟩) (by
    intro N4 _
    show f_X7_powerWeight_B52 _ _ _ _ _ _ _ = _
    unfold f_X7_powerWeight_B52
    simp (disch := omega) only [c_bnd, c_chk, c_lb0, c_lb1, c_lb2, c_lb3, L0, L1, L2, L10007, nI_add, pk_mul, ile_t, ile_f, ilt_t, ilt_f, ieq_t, ieq_f, c_rmI, setF_at, setF_ne, setF_setF, true_and, up1_at, up1_ne, pk_sub, pk_cpy_in, pk_cpy_out, Nat.zero_add, Nat.add_zero, Nat.zero_mul, Nat.sub_zero, Nat.add_sub_cancel_left])
  rw [u0, c_lb0, c_chkO h.1.ob]
  have := m_ends0 (J := J) h.1 (by omega) (b2.frA u1 (by omega)) b4 b3 u2 (pwV_lt b3 m)
  rw [show nI 0 = 0 from rfl, this, c_bnd]
  exact mx_read h1 hI h3 f1 (u1.toFr (by omega) (by omega)) rfl
theorem m_total (h : MI Γ N R p S) (hI : tI S) : MX Γ N R J p (f_X7_total Γ p x t (cS N R J)) (rTotal S x t) := by
  unfold f_X7_total rTotal
  rw [m_isSlot, c_bnd, m_in (l := 0) (h := 2000) (by decide) (by decide), c_bnd, c_chkO h.1.ob]
  refine mx_go2 h (fun e et N1 h1 h3 f1 => ?_)
  obtain ⟨e1, _, e2⟩ := ix_of e (by omega) (by omega)
  generalize ix x = q at *
  subst e1
  obtain ⟨b2, b3, b4⟩ := h1.slot hI (q := q) (by omega)
  obtain ⟨e5, _, e6⟩ := ix_of et (by omega) (by omega)
  generalize ix t = m at *
  subst e5
  obtain ⟨N2, t0, t1, t2⟩ := m_lays0 (J := J) h.1 (by omega) b2 b4
  rw [c_chkO h.1.ob, t0, c_bnd, L0]
  obtain ⟨N3, u0, u1, u2⟩ := mx_for (J := J) (R := R) (f := fun q' => f_X7_total_B31 Γ p (nI q) (nI m) q'.1 q'.2) (N := N2) (fun k N' => frA N1 N' (p + 3) (p + 5) ∧ ∀ j, j < (tcur S q).1 → N' (p + 3) j = ttV (tcur S q) k j) (s := 0) (e := m) (by omega) (by omega) ⟨t1, t2⟩ (by
    intro k N4 _ hk ⟨g1, g2⟩
    show Mx (f_X7_total_B31 _ _ _ _ _ _) _ _ _ _
    unfold f_X7_total_B31
    rw [ile_f hk (by omega), c_chkO h.1.ob, L2]
    refine mx_bnd (m_pass0 h.1 (by omega) (b2.frA g1 (by omega)) b4 b3 g2 (ttV_lt b3 k) (c := 2) (by omega)) ?_
    intro N5 ⟨v1, v2⟩
    rw [L1, nI_add]
    exact mx_eq rfl ⟨g1.trans v1, v2⟩) (by
    intro N4 _
    show f_X7_total_B31 _ _ _ _ _ _ = _
    unfold f_X7_total_B31
    simp (disch := omega) only [c_bnd, c_chk, c_lb0, c_lb1, c_lb2, c_lb3, L0, L1, L2, L10007, nI_add, pk_mul, ile_t, ile_f, ilt_t, ilt_f, ieq_t, ieq_f, c_rmI, setF_at, setF_ne, setF_setF, true_and, up1_at, up1_ne, pk_sub, pk_cpy_in, pk_cpy_out, Nat.zero_add, Nat.add_zero, Nat.zero_mul, Nat.sub_zero, Nat.add_sub_cancel_left])
  rw [u0, c_lb0, c_chkO h.1.ob]
  have := m_ends0 (J := J) h.1 (by omega) (b2.frA u1 (by omega)) b4 b3 u2 (ttV_lt b3 m)
  rw [show nI 0 = 0 from rfl, this, c_bnd]
  exact mx_read h1 hI h3 f1 (u1.toFr (by omega) (by omega)) rfl
theorem m_support (h : MI Γ N R p S) (hI : tI S) : MX Γ N R J p (f_X7_support Γ p x w (cS N R J)) (rSupport S x w) := by
  unfold f_X7_support rSupport
  rw [m_isSlot, c_bnd, m_in (l := 0) (h := 4095) (by decide) (by decide), c_bnd, c_chkO h.1.ob]
  refine mx_go2 h (fun e et N1 h1 h3 f1 => ?_)
  obtain ⟨e1, _, e2⟩ := ix_of e (by omega) (by omega)
  generalize ix x = q at *
  subst e1
  obtain ⟨b2, b3, b4⟩ := h1.slot hI (q := q) (by omega)
  obtain ⟨e5, _, e6⟩ := ix_of et (by omega) (by omega)
  generalize ix w = m at *
  subst e5
  obtain ⟨N3, t0, g1⟩ := mx_for1 (J := J) (R := R) (f := fun q' => f_X7_support_B28 Γ p (nI q) (nI m) q'.1 q'.2.1 q'.2.2) (N := N1) (fun k => nI (supN (tcur S q) k)) (fun k N' => frA N1 N' (p + 3) (p + 5)) (s := 0) (e := m) (by omega) (by omega) frA.refl (by
    intro k N2 _ hk g1
    have hw : wtA (tcur S q) (vW (tcur S q) (tcur S q).2.1 (k + 1)) < 10007 := wtA_lt
    have hs : supN (tcur S q) (k + 1) = supN (tcur S q) k + if wtA (tcur S q) (vW (tcur S q) (tcur S q).2.1 (k + 1)) = 0 then 0 else 1 := rfl
    show Mx (f_X7_support_B28 _ _ _ _ _ _ _) _ _ _ _
    unfold f_X7_support_B28
    rw [ile_f hk (by omega), c_chkO h.1.ob]
    refine mx_bnd (m_weighs h.1 (by omega) (b2.frA g1 (by omega)) b4 b3 (word := k) (by omega)) ?_
    intro N4 t1
    unfold f_X7_support_B28_L50
    rw [L0, L1]
    by_cases e5 : wtA (tcur S q) (vW (tcur S q) (tcur S q).2.1 (k + 1)) = 0
    · rw [if_pos e5] at hs
      rw [ieq_t e5, hs, nI_add, nI_add]
      exact mx_eq rfl (g1.trans t1)
    · rw [if_neg e5] at hs
      rw [ieq_f e5 (by omega) (by omega), hs, nI_add, nI_add]
      exact mx_eq rfl (g1.trans t1)) (by
    intro N2 _
    show f_X7_support_B28 _ _ _ _ _ _ _ = _
    unfold f_X7_support_B28
    simp (disch := omega) only [c_bnd, c_chk, c_lb0, c_lb1, c_lb2, c_lb3, L0, L1, L2, L10007, nI_add, pk_mul, ile_t, ile_f, ilt_t, ilt_f, ieq_t, ieq_f, c_rmI, setF_at, setF_ne, setF_setF, true_and, up1_at, up1_ne, pk_sub, pk_cpy_in, pk_cpy_out, Nat.zero_add, Nat.add_zero, Nat.zero_mul, Nat.sub_zero, Nat.add_sub_cancel_left])
  rw [show (loopM (fun q' => f_X7_support_B28 Γ p (nI q) (nI m) q'.1 q'.2.1 q'.2.2) FUEL (0, 0, cS N1 R J)) = _ from t0, c_lb1]
  exact mx_read h1 hI h3 f1 (g1.toFr (by omega) (by omega)) rfl
theorem m_first (h : MI Γ N R p S) (hI : tI S) : MX Γ N R J p (f_X7_first Γ p x (cS N R J)) (rFirst S x) := by
  unfold f_X7_first f_X7_first_L23 rFirst
  rw [m_isSlot, c_bnd, c_chkO h.1.ob]
  refine mx_go1 h (fun e N1 h1 h3 f1 => ?_)
  obtain ⟨e1, _, e2⟩ := ix_of e (by omega) (by omega)
  generalize ix x = q at *
  subst e1
  obtain ⟨b2, b3, b4⟩ := h1.slot hI (q := q) (by omega)
  obtain ⟨N2, t0, t1⟩ := m_firstWord (J := J) h.1 (show spS N1 p q (-1) (tcur S q) (tcur S q) from ⟨by omega, b2, b4, b3, Or.inl ⟨rfl, rfl⟩⟩)
  rw [c_chkO h.1.ob, t0, c_bnd]
  exact mx_read h1 hI h3 f1 t1.toFr rfl
theorem dW_eq {X Y : Au} (okX : okA X) (okY : okA Y) {c : Nat} (hc : c < 26) : (if fnz (fun k => endV (nI c) X (sumA X Y) ((expl (sumA X Y)).2.2.2.1 k)) (expl (sumA X Y)).1 = (expl (sumA X Y)).1 then -1 else nI ((expl (sumA X Y)).2.1 (fnz (fun k => endV (nI c) X (sumA X Y) ((expl (sumA X Y)).2.2.2.1 k)) (expl (sumA X Y)).1))) = fW (difA X Y) (fun k => wtA (difA X Y) ((expl (difA X Y)).2.2.2.1 k)) := by
  obtain ⟨t1, t2⟩ := tw_expl okX okY hc
  unfold fW
  rw [t1, fnz_congr (f := fun k => wtA (difA X Y) ((expl (difA X Y)).2.2.2.1 k)) (g := fun k => endV (nI c) X (sumA X Y) ((expl (sumA X Y)).2.2.2.1 k)) (expl (sumA X Y)).1 (fun j hj => (t2 j hj).2)]
  by_cases e : fnz (fun k => endV (nI c) X (sumA X Y) ((expl (sumA X Y)).2.2.2.1 k)) (expl (sumA X Y)).1 = (expl (sumA X Y)).1
  · rw [if_pos e, if_pos e]
  · rw [if_neg e, if_neg e]
    have := fnz_le (f := fun k => endV (nI c) X (sumA X Y) ((expl (sumA X Y)).2.2.2.1 k)) (expl (sumA X Y)).1
    rw [(t2 _ (by omega)).1]
theorem m_diff (h : MI Γ N R p S) (hI : tI S) : MX Γ N R J p (f_X7_differing Γ p x y (cS N R J)) (rDiff S x y) := by
  have e0 : f_X7_differing Γ p x y (cS N R J) = f_X7_differing_L20 Γ p x y (nI (b01 (inR x 0 3 ∧ inR y 0 3))) p (cS N R J) := by
    unfold f_X7_differing f_X7_differing_L19
    rw [m_isSlot, c_bnd]
    by_cases e1 : inR x 0 3
    · rw [b01_t e1, if_neg m1n0, m_isSlot, c_bnd]
      by_cases e2 : inR y 0 3
      · rw [b01_t e2, if_neg m1n0, b01_t (And.intro e1 e2)]
        rfl
      · rw [b01_f e2, if_pos m0e, b01_f (fun u : inR x 0 3 ∧ inR y 0 3 => e2 u.2)]
        rfl
    · rw [b01_f e1, if_pos m0e, b01_f (fun u : inR x 0 3 ∧ inR y 0 3 => e1 u.1)]
      rfl
  rw [e0]
  unfold f_X7_differing_L20 f_X7_differing_L38 rDiff
  rw [c_chkO h.1.ob]
  refine mx_go1 h (fun ⟨e, ey⟩ N1 h1 h3 f1 => ?_)
  obtain ⟨e1, _, e2⟩ := ix_of e (by omega) (by omega)
  obtain ⟨e3, _, e4⟩ := ix_of ey (by omega) (by omega)
  generalize ix x = q at *
  generalize ix y = q2 at *
  subst e1
  subst e3
  obtain ⟨b2, b3, b4⟩ := h1.slot hI (q := q) (by omega)
  obtain ⟨d2, d3, d4⟩ := h1.slot hI (q := q2) (by omega)
  obtain ⟨N2, t0, t1⟩ := m_firstWord (J := J) h.1 (show spS N1 p q (nI q2) (tcur S q) (sumA (tcur S q) (tcur S q2)) from ⟨by omega, b2, b4, b3, Or.inr ⟨q2, tcur S q2, by omega, rfl, d2, d4, d3, rfl⟩⟩)
  rw [c_chkO h.1.ob, t0, c_bnd]
  refine mx_read h1 hI h3 f1 t1.toFr ?_
  rw [dW_eq b3 d3 (by omega)]
theorem m_dimC (h : MI Γ N R p S) (hI : tI S) : MX Γ N R J p (f_X7_dimension Γ p x y (cS N R J)) (rDim S x y) := by
  unfold f_X7_dimension f_X7_dimension_L31 rDim
  rw [m_isSlot, c_bnd, m_in (l := 0) (h := 2) (by decide) (by decide), c_bnd, c_chkO h.1.ob]
  refine mx_go2 h (fun e ey N1 h1 h3 f1 => ?_)
  obtain ⟨e1, _, e2⟩ := ix_of e (by omega) (by omega)
  obtain ⟨e3, _, e4⟩ := ix_of ey (by omega) (by omega)
  generalize ix x = q at *
  generalize ix y = c at *
  subst e1
  subst e3
  obtain ⟨b2, b3, b4⟩ := h1.slot hI (q := q) (by omega)
  obtain ⟨N2, t0, t1, t2⟩ := m_dim (J := J) h.1 (by omega) b2 b4 b3 (kind := c) (by omega)
  rw [c_chkO h.1.ob, t0, c_bnd]
  exact mx_read h1 hI h3 f1 (t1.toFr (fun z hz => t2 z (by omega) (by omega))) rfl
theorem m_inverse (h : MI Γ N R p S) (hI : tI S) : MX Γ N R J p (f_X7_inverse Γ p x (cS N R J)) (rInverse S x) := by
  unfold f_X7_inverse f_X7_inverse_L26 rInverse
  rw [m_in (l := 1) (h := 10006) (by decide) (by decide), c_bnd, c_chkO h.1.ob]
  refine mx_go1 h (fun e N1 h1 h3 f1 => ?_)
  obtain ⟨e1, _, e2⟩ := ix_of e (by omega) (by omega)
  generalize ix x = q at *
  subst e1
  rw [m_rcp (by omega), c_bnd]
  exact mx_read h1 hI h3 f1 mFr.refl rfl
end MRD
