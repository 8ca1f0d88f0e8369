/-! ===== the model's calls that write ===== -/
section MWR
variable {Γ : zSh} {N N' R : Mem} {J : Nat → Nat → Int64} {p q : Nat} {S : tS} {x y z l b v w t k : Int32} {A : Au}
theorem tcur_same {q' : Nat} : tcur (tsv S q (tcur S q)) q' = tcur S q' := by
  show (if aBase S.1.1 + 1 = aBase S.1.1 + 1 then (if q' = q then tcur S q else S.1.2.1 S.1.1 q') else _) = _
  rw [if_pos rfl]
  by_cases e : q' = q
  · rw [if_pos e, e]
  · rw [if_neg e]
theorem mx_wr {N1 N2 N3 : Mem} {y : Option (Int32 × zSt)} {v : Int32} {J' : Nat → Nat → Int64} (hI : tI S) (hq : q < 4) (h3 : N1 p 3 = 0) (f1 : frA N N1 p (p + 17)) (k1 : MI Γ N2 R p (tsv S q (tcur S q))) (f2 : frA N1 N2 p (p + 17)) (ei : ∀ i, i ≠ 2 → N2 p i = N1 p i) (g : frP N2 N3 p (313 * q) (313 * q + 313)) (hA : mAu N3 p q A) (hy : y = some (v, cS N3 R J')) (hJ : ∀ a, a ≠ p → J' a = J a) : MX Γ N R J p y (0, v, tsv S q A) := by
  refine mx_write k1 hI (hI.1.2.1 _ q (Nat.le_refl _) hq).2 hq (by rw [ei 3 (by omega)]; exact h3) (f1.trans f2) (fun i _ => by rw [g.1 p (by omega)]) (fun x hx => g.1 x (by omega)) (fun z _ hz => g.2 z hz) hA hy hJ
theorem m_begin (h : MI Γ N R p S) (hI : tI S) : MX Γ N R J p (f_X7_begin Γ p x y (cS N R J)) (rBegin S x y) := by
  unfold f_X7_begin rBegin
  rw [m_isSlot, c_bnd, m_in (l := 0) (h := 12) (by decide) (by decide), c_bnd, c_chkO h.1.ob]
  refine mx_go2 h (fun e et N1 h1 h3 f1 => ?_)
  obtain ⟨e1, _, e2⟩ := ix_of e (by omega) (by omega)
  generalize ix x = q at *
  subst e1
  obtain ⟨b2, b3, b4⟩ := h1.slot hI (q := q) (by omega)
  obtain ⟨e5, e7, e6⟩ := ix_of et (by omega) (by omega)
  generalize ix y = n at *
  subst e5
  have hm := h.1
  obtain ⟨N2, t0, k1, f2, ep, ei⟩ := h1.save (J := J) hI (q := q) (by omega)
  have d2 := b2.eq ep
  rw [c_chkO hm.ob, t0, c_bnd, c_chkO hm.ob, m_many hm (by omega), d2.1, c_bnd, c_chkO hm.ob]
  obtain ⟨N3, u0, u1, u2, u3⟩ := m_clears (J := J) (N := N2) (n := n) hm (show q < 26 by omega)
  rw [u0, c_bnd]
  refine mx_wr hI (by omega) h3 f1 k1 f2 ei u1 ⟨u2, fun i hi => ⟨?_, ?_, fun j l hj hl => ?_⟩⟩ rfl (fun _ _ => rfl)
  · have hi' : i < n := hi
    rw [Nat.add_assoc]; exact u3 _ (by omega) (by omega)
  · have hi' : i < n := hi
    rw [Nat.add_assoc]; exact u3 _ (by omega) (by omega)
  · have hi' : i < n := hi
    have hj' : j < n := hj
    rw [show 313 * q + 25 + 144 * l + 12 * i + j = 313 * q + (25 + 144 * l + 12 * i + j) by omega]; exact u3 _ (by omega) (by omega)
theorem m_setEnd (h : MI Γ N R p S) (hI : tI S) : MX Γ N R J p (f_X7_setEnd Γ p x y b v (cS N R J)) (rSetEnd S x y b v) := by
  unfold f_X7_setEnd f_X7_setEnd_L42 rSetEnd
  rw [c_chkO h.1.ob, m_isState h hI, c_bnd, m_isNumber, c_bnd, c_chkO h.1.ob]
  refine mx_go2 h (fun ⟨ex, ey⟩ et N1 h1 h3 f1 => ?_)
  obtain ⟨e1, _, e2⟩ := ix_of ex (by omega) (by omega)
  generalize ix x = q at *
  subst e1
  obtain ⟨b2, b3, b4⟩ := h1.slot hI (q := q) (by omega)
  obtain ⟨e3, _, e4⟩ := ix_of ey (by omega) (by omega)
  generalize ix y = i at *
  subst e3
  obtain ⟨e5, e7, e6⟩ := ix_of et (by omega) (by omega)
  generalize ix v = n at *
  subst e5
  have hi : i < (tcur S q).1 := by omega
  have hm := h.1
  obtain ⟨N2, t0, k1, f2, ep, ei⟩ := h1.save (J := J) hI (q := q) (by omega)
  have d2 := b2.eq ep
  rw [c_chkO hm.ob, t0, c_bnd]
  unfold getE
  by_cases e8 : b = 0
  · simp only [e8, if_true]
    simp (disch := omega) only [c_bnd, c_chk, c_lb0, c_lb1, c_lb2, c_lb3, L0, L1, L2, L10007, nI_add, pk_mul, ile_t, ile_f, ilt_t, ilt_f, ieq_t, ieq_f, c_rmI, setF_at, setF_ne, setF_setF, true_and, up1_at, up1_ne, pk_sub, pk_cpy_in, pk_cpy_out, Nat.zero_add, Nat.add_zero, Nat.zero_mul, Nat.sub_zero, Nat.add_sub_cancel_left, c_gfI hm.ob, c_pfI hm.ob, c_chkO hm.ob, c_gfR hm.ob hm.rpool, c_ldI hm.gpool, c_stI hm.gpool, m_iAt, m_fAt, m_at, m_many hm, L12, L13, L25, L144, L313, (d2.2 i hi).1]
    refine mx_wr hI (by omega) h3 f1 k1 f2 ei (frP.set (by omega) (by omega)) ?_ rfl (fun _ _ => rfl)
    unfold putE
    rw [if_pos m0e]
    refine ⟨by rw [setF_at, up1_ne (by omega)]; exact d2.1, fun i' hi' => ?_⟩
    have hi2 : i' < (tcur S q).1 := hi'
    refine ⟨?_, ?_, fun j l hj hl => ?_⟩
    · rw [setF_at]
      show up1 _ _ _ _ = up1 _ _ _ _
      unfold up1
      by_cases e6 : i' = i
      · rw [if_pos (by omega), if_pos e6]
      · rw [if_neg (by omega), if_neg e6]; exact (d2.2 i' hi').1
    · rw [setF_at, up1_ne (by omega)]; exact (d2.2 i' hi').2.1
    · have hj2 : j < (tcur S q).1 := hj
      rw [setF_at, up1_ne (by omega)]; exact (d2.2 i' hi').2.2 j l hj hl
  · simp only [e8, if_false]
    simp (disch := omega) only [c_bnd, c_chk, c_lb0, c_lb1, c_lb2, c_lb3, L0, L1, L2, L10007, nI_add, pk_mul, ile_t, ile_f, ilt_t, ilt_f, ieq_t, ieq_f, c_rmI, setF_at, setF_ne, setF_setF, true_and, up1_at, up1_ne, pk_sub, pk_cpy_in, pk_cpy_out, Nat.zero_add, Nat.add_zero, Nat.zero_mul, Nat.sub_zero, Nat.add_sub_cancel_left, c_gfI hm.ob, c_pfI hm.ob, c_chkO hm.ob, c_gfR hm.ob hm.rpool, c_ldI hm.gpool, c_stI hm.gpool, m_iAt, m_fAt, m_at, m_many hm, L12, L13, L25, L144, L313, (d2.2 i hi).2.1]
    refine mx_wr hI (by omega) h3 f1 k1 f2 ei (frP.set (by omega) (by omega)) ?_ rfl (fun _ _ => rfl)
    unfold putE
    rw [if_neg e8]
    refine ⟨by rw [setF_at, up1_ne (by omega)]; exact d2.1, fun i' hi' => ?_⟩
    have hi2 : i' < (tcur S q).1 := hi'
    refine ⟨?_, ?_, fun j l hj hl => ?_⟩
    · rw [setF_at, up1_ne (by omega)]; exact (d2.2 i' hi').1
    · rw [setF_at]
      show up1 _ _ _ _ = up1 _ _ _ _
      unfold up1
      by_cases e6 : i' = i
      · rw [if_pos (by omega), if_pos e6]
      · rw [if_neg (by omega), if_neg e6]; exact (d2.2 i' hi').2.1
    · have hj2 : j < (tcur S q).1 := hj
      rw [setF_at, up1_ne (by omega)]; exact (d2.2 i' hi').2.2 j l hj hl
theorem m_setStep (h : MI Γ N R p S) (hI : tI S) : MX Γ N R J p (f_X7_setStep Γ p x l y z v (cS N R J)) (rSetStep S x l y z v) := by
  unfold f_X7_setStep rSetStep
  rw [c_chkO h.1.ob, m_isStep h hI, c_bnd, m_isNumber, c_bnd, c_chkO h.1.ob]
  refine mx_go2 h (fun ⟨⟨ex, ey⟩, ⟨_, ez⟩, el⟩ et N1 h1 h3 f1 => ?_)
  obtain ⟨e1, _, e2⟩ := ix_of ex (by omega) (by omega)
  generalize ix x = q at *
  subst e1
  obtain ⟨b2, b3, b4⟩ := h1.slot hI (q := q) (by omega)
  obtain ⟨f1', _, f2'⟩ := ix_of ey (by omega) (by omega)
  generalize ix y = i at *
  subst f1'
  obtain ⟨f3, _, f4⟩ := ix_of ez (by omega) (by omega)
  generalize ix z = j at *
  subst f3
  obtain ⟨f5, _, f6⟩ := ix_of el (by omega) (by omega)
  generalize ix l = c at *
  subst f5
  obtain ⟨e5, e7, e6⟩ := ix_of et (by omega) (by omega)
  generalize ix v = n at *
  subst e5
  have hi : i < (tcur S q).1 := by omega
  have hj : j < (tcur S q).1 := by omega
  have hc : c < 2 := by omega
  have hm := h.1
  obtain ⟨N2, t0, k1, f2, ep, ei⟩ := h1.save (J := J) hI (q := q) (by omega)
  have d2 := b2.eq ep
  rw [c_chkO hm.ob, t0, c_bnd]
  simp (disch := omega) only [c_bnd, c_chk, c_lb0, c_lb1, c_lb2, c_lb3, L0, L1, L2, L10007, nI_add, pk_mul, ile_t, ile_f, ilt_t, ilt_f, ieq_t, ieq_f, c_rmI, setF_at, setF_ne, setF_setF, true_and, up1_at, up1_ne, pk_sub, pk_cpy_in, pk_cpy_out, Nat.zero_add, Nat.add_zero, Nat.zero_mul, Nat.sub_zero, Nat.add_sub_cancel_left, c_gfI hm.ob, c_pfI hm.ob, c_chkO hm.ob, c_gfR hm.ob hm.rpool, c_ldI hm.gpool, c_stI hm.gpool, m_iAt, m_fAt, m_at, m_many hm, L12, L13, L25, L144, L313, (d2.2 i hi).2.2 j c hj hc]
  refine mx_wr hI (by omega) h3 f1 k1 f2 ei (frP.set (by omega) (by omega)) ?_ rfl (fun _ _ => rfl)
  refine ⟨by rw [setF_at, up1_ne (by omega)]; exact d2.1, fun i' hi' => ?_⟩
  have hi2 : i' < (tcur S q).1 := hi'
  refine ⟨?_, ?_, fun j' l' hj' hl' => ?_⟩
  · rw [setF_at, up1_ne (by omega)]; exact (d2.2 i' hi').1
  · rw [setF_at, up1_ne (by omega)]; exact (d2.2 i' hi').2.1
  · have hj2 : j' < (tcur S q).1 := hj'
    rw [setF_at]
    show up1 _ _ _ _ = if l' = c ∧ i' = i ∧ j' = j then n else (tcur S q).2.2.2 l' i' j'
    unfold up1
    by_cases e6 : l' = c ∧ i' = i ∧ j' = j
    · rw [if_pos (by omega), if_pos e6]
    · rw [if_neg (by omega), if_neg e6]; exact (d2.2 i' hi').2.2 j' l' hj' hl'
theorem m_random (h : MI Γ N R p S) (hI : tI S) : MX Γ N R J p (f_X7_random Γ p x y z (cS N R J)) (rRandom S x y z) := by
  have e0 : f_X7_random Γ p x y z (cS N R J) = f_X7_random_L34 Γ p x y z (nI (b01 (inR y 0 12 ∧ inR z 0 999999))) (nI (b01 (inR x 0 3))) p (cS N R J) := by
    unfold f_X7_random f_X7_random_L33
    rw [m_isSlot, c_bnd, m_in (l := 0) (h := 12) (by decide) (by decide), c_bnd]
    by_cases e1 : inR y 0 12
    · rw [b01_t e1, if_neg m1n0, m_in (l := 0) (h := 999999) (by decide) (by decide), c_bnd]
      by_cases e2 : inR z 0 999999
      · rw [b01_t e2, if_neg m1n0, b01_t (And.intro e1 e2)]
        rfl
      · rw [b01_f e2, if_pos m0e, b01_f (fun u : inR y 0 12 ∧ inR z 0 999999 => e2 u.2)]
        rfl
    · rw [b01_f e1, if_pos m0e, b01_f (fun u : inR y 0 12 ∧ inR z 0 999999 => e1 u.1)]
      rfl
  rw [e0]
  unfold f_X7_random_L34 rRandom
  rw [c_chkO h.1.ob]
  refine mx_go2 h (fun e ⟨et, es⟩ N1 h1 h3 f1 => ?_)
  obtain ⟨e1, _, e2⟩ := ix_of e (by omega) (by omega)
  generalize ix x = q at *
  subst e1
  obtain ⟨b2, b3, b4⟩ := h1.slot hI (q := q) (by omega)
  obtain ⟨e5, e7, e6⟩ := ix_of et (by omega) (by omega)
  generalize ix y = n at *
  subst e5
  obtain ⟨e8, e9, e10⟩ := ix_of es (by omega) (by omega)
  generalize ix z = s at *
  subst e8
  have hm := h.1
  obtain ⟨N2, t0, k1, f2, ep, ei⟩ := h1.save (J := J) hI (q := q) (by omega)
  obtain ⟨N3, u0, u1, u2, u3⟩ := m_clears (J := J) (N := N2) (n := n) hm (show q < 26 by omega)
  rw [c_chkO hm.ob, t0, c_bnd, c_chkO hm.ob, u0, c_bnd, i_l (by omega), c_pfL hm.ob, L0]
  obtain ⟨N4, v0, v1⟩ := m_draw1 (R := R) (J := J) hm (x := q) (n := n) (s := s) (by omega) (by omega) (by omega) (N := N3) (N0 := N2) ⟨u1, u2, fun i _ e => e.elim, fun i _ e => e.elim, fun l i j _ _ _ e => e.elim⟩
  obtain ⟨N5, w0, w1, w2⟩ := m_draw2 (R := R) (J := J) hm (x := q) (n := n) (s := s) (by omega) (by omega) (by omega) v1
  rw [v0, c_lb0, w0, c_lb0, c_chkO hm.ob, m_empty hm (by omega) w2 (show n ≤ 12 by omega) drwA_ok, c_bnd]
  exact mx_wr hI (by omega) h3 f1 k1 f2 ei w1 w2 rfl (fun a ha => up2_ne ha)
theorem m_scale (h : MI Γ N R p S) (hI : tI S) : MX Γ N R J p (f_X7_scale Γ p x y (cS N R J)) (rScale S x y) := by
  unfold f_X7_scale rScale
  rw [m_isSlot, c_bnd, m_isNumber, c_bnd, c_chkO h.1.ob]
  refine mx_go2 h (fun e et N1 h1 h3 f1 => ?_)
  obtain ⟨e1, _, e2⟩ := ix_of e (by omega) (by omega)
  generalize ix x = q at *
  subst e1
  obtain ⟨b2, b3, b4⟩ := h1.slot hI (q := q) (by omega)
  obtain ⟨e5, e7, e6⟩ := ix_of et (by omega) (by omega)
  generalize ix y = c at *
  subst e5
  have hm := h.1
  obtain ⟨N2, t0, k1, f2, ep, ei⟩ := h1.save (J := J) hI (q := q) (by omega)
  have d2 := b2.eq ep
  obtain ⟨N3, u0, u1, u2⟩ := m_scaleLoop (J := J) hm (show q < 26 by omega) d2 b4 b3 (c := c) (by omega)
  rw [c_chkO hm.ob, t0, c_bnd, L0, u0, c_lb0, c_chkO hm.ob, m_empty hm (by omega) u2 b4 (scaA_ok b3), c_bnd]
  exact mx_wr hI (by omega) h3 f1 k1 f2 ei u1 u2 rfl (fun _ _ => rfl)
/-- what lies in WORK is stored -/
theorem mx_st {N1 N2 N3 : Mem} {y : Option (Int32 × zSt)} (hm : mS Γ R p) (hI : tI S) (hq : q < 4) (h3 : N1 p 3 = 0) (f1 : frA N N1 p (p + 17)) (k1 : MI Γ N2 R p (tsv S q (tcur S q))) (f2 : frA N1 N2 p (p + 17)) (ei : ∀ i, i ≠ 2 → N2 p i = N1 p i) (g : mFr N2 N3 p) (hA : mAu N3 p 5 A) (h12 : A.1 ≤ 12) (hy : y = (chk (isO Γ p 7) <| bnd (f_X7_copies Γ p 5 (nI q) (cS N3 R J)) fun _ σ9 => chk (isO Γ p 7) <| bnd (f_X7_many Γ p (nI q) σ9) fun r11 σ10 => some (r11, σ10))) : MX Γ N R J p y (0, nI A.1, tsv S q A) := by
  obtain ⟨N4, u0, u1, u2⟩ := m_copies (J := J) hm (x := 5) (q := q) (by omega) (by omega) (by omega) hA h12
  rw [hy, c_chkO hm.ob, L5, u0, c_bnd, c_chkO hm.ob, m_many hm (by omega), u2.1, c_bnd]
  obtain ⟨g1, g2, g3, g4, g5⟩ := g
  refine mx_write k1 hI (hI.1.2.1 _ q (Nat.le_refl _) hq).2 hq (by rw [ei 3 (by omega)]; exact h3) (f1.trans f2) (fun i hi => by rw [u1.1 p (by omega)]; exact g3 i hi) (fun x hx => ?_) (fun z hz hz2 => by rw [u1.2 z hz2]; exact g1 z hz) u2 rfl (fun _ _ => rfl)
  rw [u1.1 x (by omega)]
  rcases hx with hx | hx | hx | hx
  · exact g5 x (by omega)
  · exact g5 x (by omega)
  · rw [hx]; exact g2
  · rw [hx]; exact g4
theorem m_combineC (h : MI Γ N R p S) (hI : tI S) : MX Γ N R J p (f_X7_combine Γ p t x y k (cS N R J)) (rCombine S t x y k) := by
  have hm := h.1
  have e0 : f_X7_combine Γ p t x y k (cS N R J) = f_X7_combine_L26 Γ p t x y k (nI (b01 (inR t 0 3 ∧ inR x 0 3 ∧ inR y 0 3))) (cS N R J) := by
    unfold f_X7_combine f_X7_combine_L25
    rw [m_isSlot, c_bnd]
    by_cases e1 : inR t 0 3
    · rw [b01_t e1, if_neg m1n0, m_isSlot, c_bnd]
      by_cases e2 : inR x 0 3
      · rw [b01_t e2, if_neg m1n0, m_isSlot, c_bnd]
        by_cases e3 : inR y 0 3
        · rw [b01_t e3, if_neg m1n0, b01_t (And.intro e1 (And.intro e2 e3))]
          rfl
        · rw [b01_f e3, if_pos m0e, b01_f (fun u : inR t 0 3 ∧ inR x 0 3 ∧ inR y 0 3 => e3 u.2.2)]
          rfl
      · rw [b01_f e2, if_pos m0e, b01_f (fun u : inR t 0 3 ∧ inR x 0 3 ∧ inR y 0 3 => e2 u.2.1)]
        rfl
    · rw [b01_f e1, if_pos m0e, b01_f (fun u : inR t 0 3 ∧ inR x 0 3 ∧ inR y 0 3 => e1 u.1)]
      rfl
  have e9 : f_X7_combine_L26 Γ p t x y k (nI (b01 (inR t 0 3 ∧ inR x 0 3 ∧ inR y 0 3))) (cS N R J) = f_X7_combine_L77 Γ p t x y k (nI (b01 ((inR t 0 3 ∧ inR x 0 3 ∧ inR y 0 3) ∧ inR k 0 2 ∧ (comA (tcur S (ix x)) (tcur S (ix y)) (ix k)).1 ≤ 12))) (nI (b01 (inR k 0 2))) (nI (b01 (inR t 0 3 ∧ inR x 0 3 ∧ inR y 0 3))) p (cS N R J) := by
    unfold f_X7_combine_L26 f_X7_combine_L76
    rw [m_in (l := 0) (h := 2) (by decide) (by decide), c_bnd]
    by_cases e1 : inR t 0 3 ∧ inR x 0 3 ∧ inR y 0 3
    · rw [b01_t e1, if_neg m1n0, m_in (l := 0) (h := 2) (by decide) (by decide), c_bnd]
      by_cases e2 : inR k 0 2
      · rw [b01_t e2, if_neg m1n0]
        obtain ⟨g1, _, g2⟩ := ix_of e1.2.1 (by omega) (by omega)
        obtain ⟨g3, _, g4⟩ := ix_of e1.2.2 (by omega) (by omega)
        obtain ⟨g5, _, g6⟩ := ix_of e2 (by omega) (by omega)
        obtain ⟨b2, b3, b4⟩ := h.slot hI (q := ix x) (by omega)
        obtain ⟨d2, d3, d4⟩ := h.slot hI (q := ix y) (by omega)
        have e4 := m_manyOf (J := J) hm (x := ix x) (y := ix y) (by omega) (by omega) b2 d2 (kind := ix k) (by omega)
        rw [← g1, ← g3, ← g5] at e4
        have hn := comA_n (X := tcur S (ix x)) (Y := tcur S (ix y)) (kind := ix k)
        have hmm : (tcur S (ix x)).1 * (tcur S (ix y)).1 ≤ 12 * 12 := Nat.mul_le_mul b4 d4
        have hn2 : (comA (tcur S (ix x)) (tcur S (ix y)) (ix k)).1 ≤ 144 := by
          rw [hn]
          by_cases e9 : ix k = 1
          · rw [if_pos e9]; omega
          · rw [if_neg e9]; omega
        rw [c_chkO hm.ob, e4, c_bnd, L12]
        by_cases e5 : (comA (tcur S (ix x)) (tcur S (ix y)) (ix k)).1 ≤ 12
        · rw [ilt_f (by omega) (by omega), b01_t (And.intro e1 (And.intro e2 e5))]
          rfl
        · rw [ilt_t (by omega) (by omega), b01_f (fun u : (inR t 0 3 ∧ inR x 0 3 ∧ inR y 0 3) ∧ inR k 0 2 ∧ _ => e5 u.2.2)]
          rfl
      · rw [b01_f e2, if_pos m0e, b01_f (fun u : (inR t 0 3 ∧ inR x 0 3 ∧ inR y 0 3) ∧ inR k 0 2 ∧ _ => e2 u.2.1)]
        rfl
    · rw [b01_f e1, if_pos m0e, b01_f (fun u : (inR t 0 3 ∧ inR x 0 3 ∧ inR y 0 3) ∧ inR k 0 2 ∧ _ => e1 u.1)]
      rfl
  rw [e0, e9]
  unfold f_X7_combine_L77
  rw [c_chkO hm.ob]
  have hr : rCombine S t x y k = if inR t 0 3 ∧ inR x 0 3 ∧ inR y 0 3 then (if inR k 0 2 then (if (inR t 0 3 ∧ inR x 0 3 ∧ inR y 0 3) ∧ inR k 0 2 ∧ (comA (tcur S (ix x)) (tcur S (ix y)) (ix k)).1 ≤ 12 then (0, nI (comA (tcur S (ix x)) (tcur S (ix y)) (ix k)).1, tsv S (ix t) (comA (tcur S (ix x)) (tcur S (ix y)) (ix k))) else (3, 0, S)) else (2, 0, S)) else (1, 0, S) := by
    unfold rCombine
    by_cases e1 : inR t 0 3 ∧ inR x 0 3 ∧ inR y 0 3
    · rw [if_pos e1, if_pos e1]
      by_cases e2 : inR k 0 2
      · rw [if_pos e2, if_pos e2]
        by_cases e5 : (comA (tcur S (ix x)) (tcur S (ix y)) (ix k)).1 ≤ 12
        · rw [if_pos e5, if_pos ⟨e1, e2, e5⟩]
        · rw [if_neg e5, if_neg (fun u => e5 u.2.2)]
      · rw [if_neg e2, if_neg e2]
    · rw [if_neg e1, if_neg e1]
  rw [hr]
  refine mx_go h (fun ⟨et, ex, ey⟩ ek ⟨_, _, e5⟩ N1 h1 h3 f1 => ?_)
  obtain ⟨g1, _, g2⟩ := ix_of ex (by omega) (by omega)
  obtain ⟨g3, _, g4⟩ := ix_of ey (by omega) (by omega)
  obtain ⟨g5, _, g6⟩ := ix_of ek (by omega) (by omega)
  obtain ⟨g7, _, g8⟩ := ix_of et (by omega) (by omega)
  generalize ix x = q1 at *
  generalize ix y = q2 at *
  generalize ix k = c at *
  generalize ix t = q at *
  clear e0 e9 hr
  subst g1
  subst g3
  subst g5
  subst g7
  obtain ⟨b2, b3, b4⟩ := h1.slot hI (q := q1) (by omega)
  obtain ⟨d2, d3, d4⟩ := h1.slot hI (q := q2) (by omega)
  obtain ⟨N2, t0, k1, f2, ep, ei⟩ := h1.save (J := J) hI (q := q) (by omega)
  obtain ⟨N3, u0, u1, u2⟩ := m_combines (J := J) hm (x := q1) (y := q2) (by omega) (by omega) (by omega) (by omega) (b2.eq ep) (d2.eq ep) b4 d4 b3 d3 (kind := c) (by omega) e5
  rw [c_chkO hm.ob, t0, c_bnd, c_chkO hm.ob, u0, c_bnd]
  exact mx_st hm hI (by omega) h3 f1 k1 f2 ei (u1.toFr (by omega)) u2 e5 rfl
theorem m_derives (h : mS Γ R p) (hx : q < 4) (hX : mAu N p q A) (h12 : A.1 ≤ 12) (ok : okA A) {c : Nat} (hc : c < 7) (h2 : c = 2 → A.1 < 12) : Mx (f_X7_derives Γ p (nI q) (nI c) (cS N R J)) (fun σ => ((), σ)) R J (fun N' => mFr N N' p ∧ mAu N' p 5 (derA A c)) := by
  unfold f_X7_derives f_X7_derives_L131
  rcases (by omega : c = 0 ∨ c = 1 ∨ c = 2 ∨ c = 3 ∨ c = 4 ∨ c = 5 ∨ c = 6) with rfl | rfl | rfl | rfl | rfl | rfl | rfl
  · simp (disch := omega) only [c_bnd, c_chk, c_lb0, c_lb1, c_lb2, c_lb3, L0, L1, L2, L10007, nI_add, pk_mul, ile_t, ile_f, ilt_t, ilt_f, ieq_t, ieq_f, c_rmI, setF_at, setF_ne, setF_setF, true_and, up1_at, up1_ne, pk_sub, pk_cpy_in, pk_cpy_out, Nat.zero_add, Nat.add_zero, Nat.zero_mul, Nat.sub_zero, Nat.add_sub_cancel_left, L3, L4, L5, L6, c_chkO h.ob, if_true]
    refine mx_bnd (m_copies h (x := q) (q := 5) (by omega) (by omega) (by omega) hX h12) ?_
    intro N1 ⟨t1, t2⟩
    exact mx_eq rfl ⟨t1.toFr (by omega), t2⟩
  · simp (disch := omega) only [c_bnd, c_chk, c_lb0, c_lb1, c_lb2, c_lb3, L0, L1, L2, L10007, nI_add, pk_mul, ile_t, ile_f, ilt_t, ilt_f, ieq_t, ieq_f, c_rmI, setF_at, setF_ne, setF_setF, true_and, up1_at, up1_ne, pk_sub, pk_cpy_in, pk_cpy_out, Nat.zero_add, Nat.add_zero, Nat.zero_mul, Nat.sub_zero, Nat.add_sub_cancel_left, L3, L4, L5, L6, c_chkO h.ob, if_true]
    refine mx_bnd (m_turns h (x := q) (q := 5) (by omega) (by omega) (by omega) hX h12) ?_
    intro N1 ⟨t1, t2⟩
    exact mx_eq rfl ⟨t1.toFr (by omega), t2⟩
  · simp (disch := omega) only [c_bnd, c_chk, c_lb0, c_lb1, c_lb2, c_lb3, L0, L1, L2, L10007, nI_add, pk_mul, ile_t, ile_f, ilt_t, ilt_f, ieq_t, ieq_f, c_rmI, setF_at, setF_ne, setF_setF, true_and, up1_at, up1_ne, pk_sub, pk_cpy_in, pk_cpy_out, Nat.zero_add, Nat.add_zero, Nat.zero_mul, Nat.sub_zero, Nat.add_sub_cancel_left, L3, L4, L5, L6, c_chkO h.ob, if_true]
    refine mx_bnd (m_stars h (x := q) (q := 5) (by omega) (by omega) (by omega) hX ok (by have := h2 rfl; omega)) ?_
    intro N1 ⟨t1, t2⟩
    exact mx_eq rfl ⟨t1.toFr (by omega), t2⟩
  · simp (disch := omega) only [c_bnd, c_chk, c_lb0, c_lb1, c_lb2, c_lb3, L0, L1, L2, L10007, nI_add, pk_mul, ile_t, ile_f, ilt_t, ilt_f, ieq_t, ieq_f, c_rmI, setF_at, setF_ne, setF_setF, true_and, up1_at, up1_ne, pk_sub, pk_cpy_in, pk_cpy_out, Nat.zero_add, Nat.add_zero, Nat.zero_mul, Nat.sub_zero, Nat.add_sub_cancel_left, L3, L4, L5, L6]
    refine mx_mono (m_quo h (x := q) (by omega) (by omega) hX h12 ok (l := 0) (by omega)) ?_
    intro N1 ⟨t1, t2⟩
    exact ⟨t1.toFr (by omega), t2⟩
  · simp (disch := omega) only [c_bnd, c_chk, c_lb0, c_lb1, c_lb2, c_lb3, L0, L1, L2, L10007, nI_add, pk_mul, ile_t, ile_f, ilt_t, ilt_f, ieq_t, ieq_f, c_rmI, setF_at, setF_ne, setF_setF, true_and, up1_at, up1_ne, pk_sub, pk_cpy_in, pk_cpy_out, Nat.zero_add, Nat.add_zero, Nat.zero_mul, Nat.sub_zero, Nat.add_sub_cancel_left, L3, L4, L5, L6]
    refine mx_mono (m_quo h (x := q) (by omega) (by omega) hX h12 ok (l := 1) (by omega)) ?_
    intro N1 ⟨t1, t2⟩
    exact ⟨t1.toFr (by omega), t2⟩
  · simp (disch := omega) only [c_bnd, c_chk, c_lb0, c_lb1, c_lb2, c_lb3, L0, L1, L2, L10007, nI_add, pk_mul, ile_t, ile_f, ilt_t, ilt_f, ieq_t, ieq_f, c_rmI, setF_at, setF_ne, setF_setF, true_and, up1_at, up1_ne, pk_sub, pk_cpy_in, pk_cpy_out, Nat.zero_add, Nat.add_zero, Nat.zero_mul, Nat.sub_zero, Nat.add_sub_cancel_left, L3, L4, L5, L6, c_chkO h.ob, if_true]
    refine mx_bnd (m_forwards h (x := q) (q := 5) (by omega) (by omega) (by omega) hX h12 ok) ?_
    intro N1 ⟨t1, t3, t2⟩
    exact mx_eq rfl ⟨t1.toFr (fun z hz => t3 z (by omega)), t2⟩
  · simp (disch := omega) only [c_bnd, c_chk, c_lb0, c_lb1, c_lb2, c_lb3, L0, L1, L2, L10007, nI_add, pk_mul, ile_t, ile_f, ilt_t, ilt_f, ieq_t, ieq_f, c_rmI, setF_at, setF_ne, setF_setF, true_and, up1_at, up1_ne, pk_sub, pk_cpy_in, pk_cpy_out, Nat.zero_add, Nat.add_zero, Nat.zero_mul, Nat.sub_zero, Nat.add_sub_cancel_left, L3, L4, L5, L6, c_chkO h.ob, if_true]
    refine mx_bnd (m_minimizes h (x := q) (q := 5) (by omega) (by omega) (by omega) (by omega) hX h12 ok) ?_
    intro N1 ⟨t1, t3, t2⟩
    exact mx_eq rfl ⟨t1.toFr (fun z hz => t3 z (by omega) (by omega)), t2⟩
theorem m_deriveC (h : MI Γ N R p S) (hI : tI S) : MX Γ N R J p (f_X7_derive Γ p t x k (cS N R J)) (rDerive S t x k) := by
  have hm := h.1
  have e0 : f_X7_derive Γ p t x k (cS N R J) = f_X7_derive_L19 Γ p t x k (nI (b01 (inR t 0 3 ∧ inR x 0 3))) (cS N R J) := by
    unfold f_X7_derive f_X7_derive_L18
    rw [m_isSlot, c_bnd]
    by_cases e1 : inR t 0 3
    · rw [b01_t e1, if_neg m1n0, m_isSlot, c_bnd]
      by_cases e2 : inR x 0 3
      · rw [b01_t e2, if_neg m1n0, b01_t (And.intro e1 e2)]
        rfl
      · rw [b01_f e2, if_pos m0e, b01_f (fun u : inR t 0 3 ∧ inR x 0 3 => e2 u.2)]
        rfl
    · rw [b01_f e1, if_pos m0e, b01_f (fun u : inR t 0 3 ∧ inR x 0 3 => e1 u.1)]
      rfl
  have e9 : f_X7_derive_L19 Γ p t x k (nI (b01 (inR t 0 3 ∧ inR x 0 3))) (cS N R J) = f_X7_derive_L56 Γ p t x k (nI (b01 ((inR t 0 3 ∧ inR x 0 3) ∧ (k = 2 → (tcur S (ix x)).1 < 12 ∧ wtA (tcur S (ix x)) (tcur S (ix x)).2.1 = 0)))) (nI (b01 (inR k 0 6))) (nI (b01 (inR t 0 3 ∧ inR x 0 3))) p (cS N R J) := by
    unfold f_X7_derive_L19 f_X7_derive_L55 f_X7_derive_L51
    rw [m_in (l := 0) (h := 6) (by decide) (by decide), c_bnd]
    by_cases e1 : inR t 0 3 ∧ inR x 0 3
    · rw [b01_t e1, if_neg m1n0]
      by_cases e2 : k = 2
      · rw [if_pos e2]
        obtain ⟨g1, _, g2⟩ := ix_of e1.2 (by omega) (by omega)
        obtain ⟨b2, b3, b4⟩ := h.slot hI (q := ix x) (by omega)
        have e4 := m_canStar (J := J) hm (x := ix x) (by omega) b2 b4 b3
        rw [← g1] at e4
        rw [c_chkO hm.ob, e4, c_bnd]
        by_cases e5 : (tcur S (ix x)).1 < 12 ∧ wtA (tcur S (ix x)) (tcur S (ix x)).2.1 = 0
        · rw [if_pos e5, if_neg m1n0, b01_t (And.intro e1 (fun _ => e5))]
          rfl
        · rw [if_neg e5, if_pos m0e, b01_f (fun u : (inR t 0 3 ∧ inR x 0 3) ∧ (k = 2 → _) => e5 (u.2 e2))]
          rfl
      · rw [if_neg e2, b01_t (And.intro e1 (fun u : k = 2 => absurd u e2))]
        rfl
    · rw [b01_f e1, if_pos m0e, b01_f (fun u : (inR t 0 3 ∧ inR x 0 3) ∧ (k = 2 → _) => e1 u.1)]
      rfl
  rw [e0, e9]
  unfold f_X7_derive_L56
  rw [c_chkO hm.ob]
  have hr : rDerive S t x k = if inR t 0 3 ∧ inR x 0 3 then (if inR k 0 6 then (if (inR t 0 3 ∧ inR x 0 3) ∧ (k = 2 → (tcur S (ix x)).1 < 12 ∧ wtA (tcur S (ix x)) (tcur S (ix x)).2.1 = 0) then (0, nI (derA (tcur S (ix x)) (ix k)).1, tsv S (ix t) (derA (tcur S (ix x)) (ix k))) else (3, 0, S)) else (2, 0, S)) else (1, 0, S) := by
    unfold rDerive
    by_cases e1 : inR t 0 3 ∧ inR x 0 3
    · rw [if_pos e1, if_pos e1]
      by_cases e2 : inR k 0 6
      · rw [if_pos e2, if_pos e2]
        obtain ⟨g1, _, g2⟩ := ix_of e2 (by omega) (by omega)
        have hk : k = 2 ↔ ix k = 2 := ⟨fun u => by rw [u]; rfl, fun u => by rw [g1, u]; rfl⟩
        by_cases e5 : ix k = 2 → (tcur S (ix x)).1 < 12 ∧ wtA (tcur S (ix x)) (tcur S (ix x)).2.1 = 0
        · rw [if_pos e5, if_pos ⟨e1, fun u => e5 (hk.mp u)⟩]
        · rw [if_neg e5, if_neg (fun u => e5 (fun v => u.2 (hk.mpr v)))]
      · rw [if_neg e2, if_neg e2]
    · rw [if_neg e1, if_neg e1]
  rw [hr]
  refine mx_go h (fun ⟨et, ex⟩ ek ⟨_, e5⟩ N1 h1 h3 f1 => ?_)
  obtain ⟨g1, _, g2⟩ := ix_of ex (by omega) (by omega)
  obtain ⟨g5, _, g6⟩ := ix_of ek (by omega) (by omega)
  obtain ⟨g7, _, g8⟩ := ix_of et (by omega) (by omega)
  have hk : ix k = 2 → k = 2 := fun u => by rw [g5, u]; rfl
  have e6 : ix k = 2 → (tcur S (ix x)).1 < 12 := fun u => (e5 (hk u)).1
  clear e0 e9 hr hk e5
  generalize ix x = q1 at *
  generalize ix k = c at *
  generalize ix t = q at *
  subst g1
  subst g5
  subst g7
  obtain ⟨b2, b3, b4⟩ := h1.slot hI (q := q1) (by omega)
  obtain ⟨N2, t0, k1, f2, ep, ei⟩ := h1.save (J := J) hI (q := q) (by omega)
  obtain ⟨N3, u0, u1, u2⟩ := m_derives (J := J) hm (q := q1) (by omega) (b2.eq ep) b4 b3 (c := c) (by omega) e6
  rw [c_chkO hm.ob, t0, c_bnd, c_chkO hm.ob, u0, c_bnd]
  exact mx_st hm hI (by omega) h3 f1 k1 f2 ei u1 u2 (derA_le b3 b4 e6) rfl
end MWR
