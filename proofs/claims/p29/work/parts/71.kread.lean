/-! ===== the class's calls that read ===== -/
abbrev cdA : Nat → Nat := fun k => k - 1
theorem if2 {β : Type} {P Q : Prop} [Decidable P] [Decidable Q] {a b : β} : (if P ∧ Q then a else b) = if P then (if Q then a else b) else b := by
  by_cases e1 : P
  · by_cases e2 : Q
    · rw [if_pos ⟨e1, e2⟩, if_pos e1, if_pos e2]
    · rw [if_neg (fun u => e2 u.2), if_pos e1, if_neg e2]
  · rw [if_neg (fun u => e1 u.1), if_neg e1]
section CR
variable {Γ : zSh} {N N' R R' : Mem} {J : Nat → Nat → Int64} {o q : Nat} {S : tS} {x y z l b v w t : Int32} {r1 : Rs} {cd : Nat → Nat}
theorem KI.walk (h : KI Γ N R o S) (hI : tI S) (e : frA N N' (o + 52) (o + 247)) (eR : ∀ x, x ≠ o + 64 → R' x = R x) (hw : ∃ u u', wS Γ R' (o + 64) u u') : KI Γ N' R' o S := ⟨h.1.walk eR hw, h.2.fr h.1.1 hI e (eR _ (by omega))⟩
theorem KI.grid (h : KI Γ N R o S) (hI : tI S) (e : frA N N' (o + 52) (o + 247)) (eR : ∀ x, x ≠ o + 214 → R' x = R x) (hg : ∃ π, gS Γ R' (o + 213) π) : KI Γ N' R' o S := ⟨h.1.grid eR hg, h.2.fr h.1.1 hI e (eR _ (by omega))⟩
theorem c_states (hK : KI Γ N R o S) (hI : tI S) : KX Γ N R J o cdA (f_X6_states Γ o x (cS N R J)) (rStates S x) := by
  unfold f_X6_states rStates
  refine kx_slot rfl hK hI rfl (fun e => ?_)
  obtain ⟨e1, _, e2⟩ := ix_of e (by omega) (by omega)
  generalize ix x = q at *
  subst e1
  obtain ⟨⟨a1, a2, a3, a4, a5⟩, b1, b2, b3, b4⟩ := hK.slot hI (q := q) (by omega)
  refine kx_read hK hI frA.refl ?_
  simp (disch := omega) only [c_bnd, c_chk, c_lb0, c_lb1, c_lb2, c_lb3, L0, L1, L2, L10007, nI_add, pk_mul, ile_t, ile_f, ilt_t, ilt_f, ieq_t, ieq_f, c_rmI, setF_at, setF_ne, setF_setF, true_and, up1_at, up1_ne, pk_sub, pk_cpy_in, pk_cpy_out, Nat.zero_add, Nat.add_zero, Nat.zero_mul, Nat.sub_zero, Nat.add_sub_cancel_left, c_gfR a1 a3, c_ldA a4 a5, c_gfI b1.ob, b2.1]
theorem c_weight (hK : KI Γ N R o S) (hI : tI S) : KX Γ N R J o cdA (f_X6_weight Γ o x w (cS N R J)) (rWeight S x w) := by
  unfold f_X6_weight rWeight
  refine kx_slot rfl hK hI rfl (fun e => ?_)
  obtain ⟨e1, _, e2⟩ := ix_of e (by omega) (by omega)
  generalize ix x = q at *
  subst e1
  obtain ⟨⟨a1, a2, a3, a4, a5⟩, b1, b2, b3, b4⟩ := hK.slot hI (q := q) (by omega)
  refine kx_range rfl (by decide) (by decide) hK hI (by omega) rfl (fun e3 => ?_)
  obtain ⟨f1, _, f2⟩ := ix_of e3 (by omega) (by omega)
  generalize ix w = c at *
  subst f1
  obtain ⟨w1, u, u', w2⟩ := hK.1.2.2.2.1
  simp (disch := omega) only [c_bnd, c_chk, c_lb0, c_lb1, c_lb2, c_lb3, L0, L1, L2, L10007, nI_add, pk_mul, ile_t, ile_f, ilt_t, ilt_f, ieq_t, ieq_f, c_rmI, setF_at, setF_ne, setF_setF, true_and, up1_at, up1_ne, pk_sub, pk_cpy_in, pk_cpy_out, Nat.zero_add, Nat.add_zero, Nat.zero_mul, Nat.sub_zero, Nat.add_sub_cancel_left, c_gfR a1 a3, c_gfR a1 w1, c_ldA a4 a5, c_chkO w2.1]
  obtain ⟨N1, s0, s1, s2⟩ := k_start (J := J) w2 b1 (by omega) b2 b4 b4
  rw [s0, c_bnd]
  simp (disch := omega) only [c_bnd, c_chk, c_lb0, c_lb1, c_lb2, c_lb3, L0, L1, L2, L10007, nI_add, pk_mul, ile_t, ile_f, ilt_t, ilt_f, ieq_t, ieq_f, c_rmI, setF_at, setF_ne, setF_setF, true_and, up1_at, up1_ne, pk_sub, pk_cpy_in, pk_cpy_out, Nat.zero_add, Nat.add_zero, Nat.zero_mul, Nat.sub_zero, Nat.add_sub_cancel_left, c_gfR a1 a3, c_gfR a1 w1, c_ldA a4 a5, c_chkO w2.1]
  obtain ⟨N2, R2, t0, t1, t2, u2, u2', t3, t4⟩ := k_word (J := J) w2 b1 (by omega) (b2.fr s1 (by omega)) b4 b4 b3 s2 (fun j hj => (b3 j hj).1) (word := c) (by omega)
  rw [t0, c_bnd]
  have hK2 : KI Γ N2 R2 o S := hK.walk hI ((s1.trans t1).mono (by omega) (by omega)) t2 ⟨_, _, t3⟩
  obtain ⟨⟨c1, c2, c3, c4, c5⟩, d1, d2, d3, d4⟩ := hK2.slot hI (q := q) (by omega)
  have w3 := hK2.1.2.2.2.1.1
  simp (disch := omega) only [c_bnd, c_chk, c_lb0, c_lb1, c_lb2, c_lb3, L0, L1, L2, L10007, nI_add, pk_mul, ile_t, ile_f, ilt_t, ilt_f, ieq_t, ieq_f, c_rmI, setF_at, setF_ne, setF_setF, true_and, up1_at, up1_ne, pk_sub, pk_cpy_in, pk_cpy_out, Nat.zero_add, Nat.add_zero, Nat.zero_mul, Nat.sub_zero, Nat.add_sub_cancel_left, c_gfR c1 c3, c_gfR c1 w3, c_ldA c4 c5, c_chkO t3.1]
  rw [k_value t3 d1 d2 d4 d4 d3 (fun j hj => by rw [t4 j hj]; exact vW_lt (fun j hj => (b3 j hj).1) hj), c_bnd, wtA_congr t4]
  exact kx_ok rfl hK2 hI ((s1.trans t1).mono (by omega) (by omega)) (fun x hx => t2 x (by omega))
theorem c_power (hK : KI Γ N R o S) (hI : tI S) : KX Γ N R J o cdA (f_X6_powerWeight Γ o x w t (cS N R J)) (rPower S x w t) := by
  unfold f_X6_powerWeight rPower
  rw [if2 (P := inR w 0 1000000) (Q := inR t 0 200)]
  refine kx_slot rfl hK hI rfl (fun e => ?_)
  obtain ⟨e1, _, e2⟩ := ix_of e (by omega) (by omega)
  generalize ix x = q at *
  subst e1
  obtain ⟨⟨a1, a2, a3, a4, a5⟩, b1, b2, b3, b4⟩ := hK.slot hI (q := q) (by omega)
  refine kx_range rfl (by decide) (by decide) hK hI (by omega) rfl (fun e3 => ?_)
  obtain ⟨f1, _, f2⟩ := ix_of e3 (by omega) (by omega)
  generalize ix w = c at *
  subst f1
  refine kx_range rfl (by decide) (by decide) hK hI (by omega) rfl (fun e4 => ?_)
  obtain ⟨f3, _, f4⟩ := ix_of e4 (by omega) (by omega)
  generalize ix t = m at *
  subst f3
  obtain ⟨w1, u, u', w2⟩ := hK.1.2.2.2.1
  simp (disch := omega) only [c_bnd, c_chk, c_lb0, c_lb1, c_lb2, c_lb3, L0, L1, L2, L10007, nI_add, pk_mul, ile_t, ile_f, ilt_t, ilt_f, ieq_t, ieq_f, c_rmI, setF_at, setF_ne, setF_setF, true_and, up1_at, up1_ne, pk_sub, pk_cpy_in, pk_cpy_out, Nat.zero_add, Nat.add_zero, Nat.zero_mul, Nat.sub_zero, Nat.add_sub_cancel_left, c_gfR a1 a3, c_gfR a1 w1, c_ldA a4 a5, c_chkO w2.1]
  obtain ⟨N1, s0, s1, s2⟩ := k_start (J := J) w2 b1 (by omega) b2 b4 b4
  rw [s0, c_bnd]
  obtain ⟨N3, R3, t0, g1, g2, ⟨u3, u3', g3, g4⟩⟩ := mr_for (J := J) (f := fun q' => f_X6_powerWeight_B35 Γ o (nI q) (nI c) (nI m) q'.1 q'.2) (N := N1) (R := R) (fun k N' R' => frA N N' (o + 65) (o + 67) ∧ (∀ x, x ≠ o + 64 → R' x = R x) ∧ ∃ u u', wS Γ R' (o + 64) u u' ∧ ∀ j, j < (tcur S q).1 → N' u j = pwV (tcur S q) (c + 1) k j) (s := 0) (e := m) (by omega) (by omega) ⟨s1, fun x _ => rfl, u, u', w2, s2⟩ (by
    intro k N2 R2 _ hk ⟨g1, g2, v1, v2, g3, g4⟩
    have hK2 : KI Γ N2 R2 o S := hK.walk hI (g1.mono (by omega) (by omega)) g2 ⟨_, _, g3⟩
    obtain ⟨⟨c1, c2, c3, c4, c5⟩, d1, d2, d3, d4⟩ := hK2.slot hI (q := q) (by omega)
    have w3 := hK2.1.2.2.2.1.1
    show MxR (f_X6_powerWeight_B35 _ _ _ _ _ _ _) _ _ _
    unfold f_X6_powerWeight_B35
    simp (disch := omega) only [c_bnd, c_chk, c_lb0, c_lb1, c_lb2, c_lb3, L0, L1, L2, L10007, nI_add, pk_mul, ile_t, ile_f, ilt_t, ilt_f, ieq_t, ieq_f, c_rmI, setF_at, setF_ne, setF_setF, true_and, up1_at, up1_ne, pk_sub, pk_cpy_in, pk_cpy_out, Nat.zero_add, Nat.add_zero, Nat.zero_mul, Nat.sub_zero, Nat.add_sub_cancel_left, c_gfR c1 c3, c_gfR c1 w3, c_ldA c4 c5, c_chkO g3.1]
    refine mr_bnd (k_word g3 d1 (by omega) d2 d4 d4 d3 g4 (pwV_lt d3 k) (word := c) (by omega)) ?_
    intro N4 R4 ⟨t1, t2, v3, v4, t3, t4⟩
    exact mr_eq rfl ⟨g1.trans t1, fun x hx => (t2 x hx).trans (g2 x hx), v3, v4, t3, t4⟩) (by
    intro N2 R2 _
    show f_X6_powerWeight_B35 _ _ _ _ _ _ _ = _
    unfold f_X6_powerWeight_B35
    simp (disch := omega) only [c_bnd, c_chk, c_lb0, c_lb1, c_lb2, c_lb3, L0, L1, L2, L10007, nI_add, pk_mul, ile_t, ile_f, ilt_t, ilt_f, ieq_t, ieq_f, c_rmI, setF_at, setF_ne, setF_setF, true_and, up1_at, up1_ne, pk_sub, pk_cpy_in, pk_cpy_out, Nat.zero_add, Nat.add_zero, Nat.zero_mul, Nat.sub_zero, Nat.add_sub_cancel_left])
  rw [t0, c_lb0]
  have hK2 : KI Γ N3 R3 o S := hK.walk hI (g1.mono (by omega) (by omega)) g2 ⟨_, _, g3⟩
  obtain ⟨⟨c1, c2, c3, c4, c5⟩, d1, d2, d3, d4⟩ := hK2.slot hI (q := q) (by omega)
  have w3 := hK2.1.2.2.2.1.1
  simp (disch := omega) only [c_bnd, c_chk, c_lb0, c_lb1, c_lb2, c_lb3, L0, L1, L2, L10007, nI_add, pk_mul, ile_t, ile_f, ilt_t, ilt_f, ieq_t, ieq_f, c_rmI, setF_at, setF_ne, setF_setF, true_and, up1_at, up1_ne, pk_sub, pk_cpy_in, pk_cpy_out, Nat.zero_add, Nat.add_zero, Nat.zero_mul, Nat.sub_zero, Nat.add_sub_cancel_left, c_gfR c1 c3, c_gfR c1 w3, c_ldA c4 c5, c_chkO g3.1]
  rw [k_value g3 d1 d2 d4 d4 d3 (fun j hj => by rw [g4 j hj]; exact pwV_lt b3 m j hj), c_bnd, wtA_congr g4]
  exact kx_ok rfl hK2 hI (g1.mono (by omega) (by omega)) (fun x hx => g2 x (by omega))
theorem c_total (hK : KI Γ N R o S) (hI : tI S) : KX Γ N R J o cdA (f_X6_total Γ o x t (cS N R J)) (rTotal S x t) := by
  unfold f_X6_total rTotal
  refine kx_slot rfl hK hI rfl (fun e => ?_)
  obtain ⟨e1, _, e2⟩ := ix_of e (by omega) (by omega)
  generalize ix x = q at *
  subst e1
  obtain ⟨⟨a1, a2, a3, a4, a5⟩, b1, b2, b3, b4⟩ := hK.slot hI (q := q) (by omega)
  refine kx_range rfl (by decide) (by decide) hK hI (by omega) rfl (fun e4 => ?_)
  obtain ⟨f3, _, f4⟩ := ix_of e4 (by omega) (by omega)
  generalize ix t = m at *
  subst f3
  obtain ⟨w1, u, u', w2⟩ := hK.1.2.2.2.1
  simp (disch := omega) only [c_bnd, c_chk, c_lb0, c_lb1, c_lb2, c_lb3, L0, L1, L2, L10007, nI_add, pk_mul, ile_t, ile_f, ilt_t, ilt_f, ieq_t, ieq_f, c_rmI, setF_at, setF_ne, setF_setF, true_and, up1_at, up1_ne, pk_sub, pk_cpy_in, pk_cpy_out, Nat.zero_add, Nat.add_zero, Nat.zero_mul, Nat.sub_zero, Nat.add_sub_cancel_left, c_gfR a1 a3, c_gfR a1 w1, c_ldA a4 a5, c_chkO w2.1]
  obtain ⟨N1, s0, s1, s2⟩ := k_start (J := J) w2 b1 (by omega) b2 b4 b4
  rw [s0, c_bnd]
  obtain ⟨N3, R3, t0, g1, g2, ⟨u3, u3', g3, g4⟩⟩ := mr_for (J := J) (f := fun q' => f_X6_total_B27 Γ o (nI q) (nI m) q'.1 q'.2) (N := N1) (R := R) (fun k N' R' => frA N N' (o + 65) (o + 67) ∧ (∀ x, x ≠ o + 64 → R' x = R x) ∧ ∃ u u', wS Γ R' (o + 64) u u' ∧ ∀ j, j < (tcur S q).1 → N' u j = ttV (tcur S q) k j) (s := 0) (e := m) (by omega) (by omega) ⟨s1, fun x _ => rfl, u, u', w2, s2⟩ (by
    intro k N2 R2 _ hk ⟨g1, g2, v1, v2, g3, g4⟩
    have hK2 : KI Γ N2 R2 o S := hK.walk hI (g1.mono (by omega) (by omega)) g2 ⟨_, _, g3⟩
    obtain ⟨⟨c1, c2, c3, c4, c5⟩, d1, d2, d3, d4⟩ := hK2.slot hI (q := q) (by omega)
    have w3 := hK2.1.2.2.2.1.1
    show MxR (f_X6_total_B27 _ _ _ _ _ _) _ _ _
    unfold f_X6_total_B27
    simp (disch := omega) only [c_bnd, c_chk, c_lb0, c_lb1, c_lb2, c_lb3, L0, L1, L2, L10007, nI_add, pk_mul, ile_t, ile_f, ilt_t, ilt_f, ieq_t, ieq_f, c_rmI, setF_at, setF_ne, setF_setF, true_and, up1_at, up1_ne, pk_sub, pk_cpy_in, pk_cpy_out, Nat.zero_add, Nat.add_zero, Nat.zero_mul, Nat.sub_zero, Nat.add_sub_cancel_left, c_gfR c1 c3, c_gfR c1 w3, c_ldA c4 c5, c_chkO g3.1]
    refine mr_bnd (k_both g3 d1 (by omega) d2 d4 d4 d3 (fun j hj => by rw [g4 j hj]; exact ttV_lt d3 k j hj)) ?_
    intro N4 R4 ⟨t1, t2, t3, t4⟩
    exact mr_eq rfl ⟨g1.trans t1, fun x hx => (t2 x hx).trans (g2 x hx), _, _, t3, fun j hj => (t4 j hj).trans (stpB_congr g4)⟩) (by
    intro N2 R2 _
    show f_X6_total_B27 _ _ _ _ _ _ = _
    unfold f_X6_total_B27
    simp (disch := omega) only [c_bnd, c_chk, c_lb0, c_lb1, c_lb2, c_lb3, L0, L1, L2, L10007, nI_add, pk_mul, ile_t, ile_f, ilt_t, ilt_f, ieq_t, ieq_f, c_rmI, setF_at, setF_ne, setF_setF, true_and, up1_at, up1_ne, pk_sub, pk_cpy_in, pk_cpy_out, Nat.zero_add, Nat.add_zero, Nat.zero_mul, Nat.sub_zero, Nat.add_sub_cancel_left])
  rw [t0, c_lb0]
  have hK2 : KI Γ N3 R3 o S := hK.walk hI (g1.mono (by omega) (by omega)) g2 ⟨_, _, g3⟩
  obtain ⟨⟨c1, c2, c3, c4, c5⟩, d1, d2, d3, d4⟩ := hK2.slot hI (q := q) (by omega)
  have w3 := hK2.1.2.2.2.1.1
  simp (disch := omega) only [c_bnd, c_chk, c_lb0, c_lb1, c_lb2, c_lb3, L0, L1, L2, L10007, nI_add, pk_mul, ile_t, ile_f, ilt_t, ilt_f, ieq_t, ieq_f, c_rmI, setF_at, setF_ne, setF_setF, true_and, up1_at, up1_ne, pk_sub, pk_cpy_in, pk_cpy_out, Nat.zero_add, Nat.add_zero, Nat.zero_mul, Nat.sub_zero, Nat.add_sub_cancel_left, c_gfR c1 c3, c_gfR c1 w3, c_ldA c4 c5, c_chkO g3.1]
  rw [k_value g3 d1 d2 d4 d4 d3 (fun j hj => by rw [g4 j hj]; exact ttV_lt b3 m j hj), c_bnd, wtA_congr g4]
  exact kx_ok rfl hK2 hI (g1.mono (by omega) (by omega)) (fun x hx => g2 x (by omega))
end CR
