/-! ===== the class's calls that read, the rest ===== -/
section CR2
variable {Γ : zSh} {N N' R R' : Mem} {J : Nat → Nat → Int64} {o q : Nat} {S : tS} {x y z l b v w t : Int32} {r1 : Rs} {cd : Nat → Nat} {A : Au}
theorem c_first (hK : KI Γ N R o S) (hI : tI S) : KX Γ N R J o cdA (f_X6_first Γ o x (cS N R J)) (rFirst S x) := by
  unfold f_X6_first rFirst
  refine kx_slot rfl hK hI rfl (fun e => ?_)
  obtain ⟨e1, _, e2⟩ := ix_of e (by omega) (by omega)
  generalize ix x = q at *
  subst e1
  obtain ⟨⟨a1, a2, a3, a4, a5⟩, b1, b2, b3, b4⟩ := hK.slot hI (q := q) (by omega)
  obtain ⟨p1, p2⟩ := hK.1.2.2.2.2.2.1
  simp (disch := omega) only [c_bnd, c_chk, c_lb0, c_lb1, c_lb2, c_lb3, L0, L1, L2, L10007, nI_add, pk_mul, ile_t, ile_f, ilt_t, ilt_f, ieq_t, ieq_f, c_rmI, setF_at, setF_ne, setF_setF, true_and, up1_at, up1_ne, pk_sub, pk_cpy_in, pk_cpy_out, Nat.zero_add, Nat.add_zero, Nat.zero_mul, Nat.sub_zero, Nat.add_sub_cancel_left, c_gfR a1 a3, c_gfR a1 p1, c_ldA a4 a5, c_chkO p2.ob]
  obtain ⟨N1, s0, s1, s2, s3, s4⟩ := s_explore (J := J) p2 b1 (by omega) b2 b4 b3
  rw [s0, c_bnd]
  simp (disch := omega) only [c_bnd, c_chk, c_lb0, c_lb1, c_lb2, c_lb3, L0, L1, L2, L10007, nI_add, pk_mul, ile_t, ile_f, ilt_t, ilt_f, ieq_t, ieq_f, c_rmI, setF_at, setF_ne, setF_setF, true_and, up1_at, up1_ne, pk_sub, pk_cpy_in, pk_cpy_out, Nat.zero_add, Nat.add_zero, Nat.zero_mul, Nat.sub_zero, Nat.add_sub_cancel_left, c_gfR a1 p1, c_chkO p2.ob]
  rw [s_firstW p2 b3 (by omega) s2 s3, c_bnd]
  exact kx_read hK hI (s1.mono (by omega) (by omega)) rfl
/-- the size that is left of what lies in scratch -/
theorem c_spaceL (h4 : R o 4 = o + 52) (h8 : R o 8 = o + 82) (ho : Γ o = some (6 + 5, 0)) (ha : auS Γ R (o + 52) 12) (hb : bS Γ R (o + 82)) (hA : cAu N (o + 52) A) (h12 : A.1 ≤ 12) (ok : okA A) {k : Nat} (hk : k < 3) : Mx (f_X6_spaceSize_L25 Γ o (nI k) (cS N R J)) (fun σ => (nI (if k = 2 then (minA A).1 else (redA A).1), σ)) R J (fun N' => frA N N' (o + 52) (o + 247)) := by
  unfold f_X6_spaceSize_L25 f_X6_spaceSize_L55
  by_cases e : k = 2
  · rw [if_pos e]
    simp (disch := omega) only [c_bnd, c_chk, c_lb0, c_lb1, c_lb2, c_lb3, L0, L1, L2, L10007, nI_add, pk_mul, ile_t, ile_f, ilt_t, ilt_f, ieq_t, ieq_f, c_rmI, setF_at, setF_ne, setF_setF, true_and, up1_at, up1_ne, pk_sub, pk_cpy_in, pk_cpy_out, Nat.zero_add, Nat.add_zero, Nat.zero_mul, Nat.sub_zero, Nat.add_sub_cancel_left, c_gfR ho h4, c_gfR ho h8, c_chkO hb.ob]
    refine mx_bnd (s_minimize hb ha (by omega) hA h12 ok) ?_
    intro N1 ⟨t1, t2⟩
    simp (disch := omega) only [c_bnd, c_chk, c_lb0, c_lb1, c_lb2, c_lb3, L0, L1, L2, L10007, nI_add, pk_mul, ile_t, ile_f, ilt_t, ilt_f, ieq_t, ieq_f, c_rmI, setF_at, setF_ne, setF_setF, true_and, up1_at, up1_ne, pk_sub, pk_cpy_in, pk_cpy_out, Nat.zero_add, Nat.add_zero, Nat.zero_mul, Nat.sub_zero, Nat.add_sub_cancel_left, c_gfR ho h4, c_gfI ha.ob, c_pfI ha.ob, c_gfR ha.ob ha.r1, c_gfR ha.ob ha.r2, c_gfR ha.ob ha.r3, c_ldI ha.g1, c_ldI ha.g2, c_stI ha.g1, c_stI ha.g2, c_chkO ha.ob, t2.1]
    exact mx_eq rfl (fun x hx => t1 x (by omega) (by omega))
  · rw [if_neg e]
    simp (disch := omega) only [c_bnd, c_chk, c_lb0, c_lb1, c_lb2, c_lb3, L0, L1, L2, L10007, nI_add, pk_mul, ile_t, ile_f, ilt_t, ilt_f, ieq_t, ieq_f, c_rmI, setF_at, setF_ne, setF_setF, true_and, up1_at, up1_ne, pk_sub, pk_cpy_in, pk_cpy_out, Nat.zero_add, Nat.add_zero, Nat.zero_mul, Nat.sub_zero, Nat.add_sub_cancel_left, c_gfR ho h4, c_gfR ho h8, c_chkO hb.ob]
    refine mx_bnd (s_reduce hb ha (by omega) hA h12 ok) ?_
    intro N1 ⟨t1, t2⟩
    simp (disch := omega) only [c_bnd, c_chk, c_lb0, c_lb1, c_lb2, c_lb3, L0, L1, L2, L10007, nI_add, pk_mul, ile_t, ile_f, ilt_t, ilt_f, ieq_t, ieq_f, c_rmI, setF_at, setF_ne, setF_setF, true_and, up1_at, up1_ne, pk_sub, pk_cpy_in, pk_cpy_out, Nat.zero_add, Nat.add_zero, Nat.zero_mul, Nat.sub_zero, Nat.add_sub_cancel_left, c_gfR ho h4, c_gfI ha.ob, c_pfI ha.ob, c_gfR ha.ob ha.r1, c_gfR ha.ob ha.r2, c_gfR ha.ob ha.r3, c_ldI ha.g1, c_ldI ha.g2, c_stI ha.g1, c_stI ha.g2, c_chkO ha.ob, t2.1]
    exact mx_eq rfl (fun x hx => t1 x (by omega) (by omega))
theorem c_space (hK : KI Γ N R o S) (hI : tI S) (hq : q < 4) {k : Nat} (hk : k < 3) : Mx (f_X6_spaceSize Γ o (nI q) (nI k) (cS N R J)) (fun σ => (nI (dimV (tcur S q) k), σ)) R J (fun N' => frA N N' (o + 52) (o + 247)) := by
  obtain ⟨⟨a1, a2, a3, a4, a5⟩, b1, b2, b3, b4⟩ := hK.slot hI hq
  obtain ⟨p1, p2⟩ := hK.1.2.2.2.2.2.1
  obtain ⟨s1, s2⟩ := hK.1.2.1
  unfold f_X6_spaceSize
  simp (disch := omega) only [c_bnd, c_chk, c_lb0, c_lb1, c_lb2, c_lb3, L0, L1, L2, L10007, nI_add, pk_mul, ile_t, ile_f, ilt_t, ilt_f, ieq_t, ieq_f, c_rmI, setF_at, setF_ne, setF_setF, true_and, up1_at, up1_ne, pk_sub, pk_cpy_in, pk_cpy_out, Nat.zero_add, Nat.add_zero, Nat.zero_mul, Nat.sub_zero, Nat.add_sub_cancel_left, c_gfR a1 a3, c_gfR a1 s1, c_ldA a4 a5, c_chkO s2.ob]
  refine mx_bnd (s_copy s2 b1 (by omega) b2 b4 b4) ?_
  intro N1 ⟨t1, t2⟩
  unfold dimV
  by_cases e : k = 1
  · subst e
    rw [ieq_t rfl]
    simp (disch := omega) only [c_bnd, c_chk, c_lb0, c_lb1, c_lb2, c_lb3, L0, L1, L2, L10007, nI_add, pk_mul, ile_t, ile_f, ilt_t, ilt_f, ieq_t, ieq_f, c_rmI, setF_at, setF_ne, setF_setF, true_and, up1_at, up1_ne, pk_sub, pk_cpy_in, pk_cpy_out, Nat.zero_add, Nat.add_zero, Nat.zero_mul, Nat.sub_zero, Nat.add_sub_cancel_left, c_gfR a1 s1, c_chkO s2.ob]
    refine mx_bnd (s_reverse s2 t2 b4) ?_
    intro N2 ⟨t3, t4⟩
    refine mx_mono (c_spaceL s1 p1 a1 s2 p2 t4 b4 (revA_ok b3) hk) ?_
    intro N3 t5
    exact ((t1.trans t3).mono (by omega) (by omega)).trans t5
  · rw [ieq_f e (by omega) (by omega)]
    have := c_spaceL (J := J) s1 p1 a1 s2 p2 t2 b4 b3 hk
    rw [if_neg e]
    have e9 : (if k = 0 then (expl (tcur S q)).1 else (minA (tcur S q)).1) = if k = 2 then (minA (tcur S q)).1 else (redA (tcur S q)).1 := by
      by_cases e2 : k = 2
      · rw [if_pos e2, if_neg (by omega)]
      · rw [if_neg e2, if_pos (by omega)]
        rfl
    rw [e9]
    refine mx_mono this ?_
    intro N3 t5
    exact (t1.mono (by omega) (by omega)).trans t5
theorem c_dim (hK : KI Γ N R o S) (hI : tI S) : KX Γ N R J o cdA (f_X6_dimension Γ o x y (cS N R J)) (rDim S x y) := by
  unfold f_X6_dimension rDim
  refine kx_slot rfl hK hI rfl (fun e => ?_)
  obtain ⟨e1, _, e2⟩ := ix_of e (by omega) (by omega)
  generalize ix x = q at *
  subst e1
  refine kx_range rfl (by decide) (by decide) hK hI (by omega) rfl (fun e4 => ?_)
  obtain ⟨f3, _, f4⟩ := ix_of e4 (by omega) (by omega)
  generalize ix y = m at *
  subst f3
  obtain ⟨⟨a1, _⟩, _⟩ := hK.slot hI (q := q) (by omega)
  obtain ⟨N1, s0, s1⟩ := c_space (J := J) hK hI (q := q) (by omega) (k := m) (by omega)
  rw [c_chkO a1, s0, c_bnd]
  exact kx_read hK hI s1 rfl
theorem c_basisW (hK : KI Γ N R o S) (hI : tI S) : KX Γ N R J o cdA (f_X6_basisWord Γ o x y (cS N R J)) (rBasis S x y) := by
  unfold f_X6_basisWord rBasis
  rw [if2 (P := inR x 0 3)]
  refine kx_slot rfl hK hI rfl (fun e => ?_)
  obtain ⟨e1, _, e2⟩ := ix_of e (by omega) (by omega)
  generalize ix x = q at *
  subst e1
  obtain ⟨⟨a1, a2, a3, a4, a5⟩, b1, b2, b3, b4⟩ := hK.slot hI (q := q) (by omega)
  obtain ⟨p1, p2⟩ := hK.1.2.2.2.2.2.1
  simp (disch := omega) only [c_bnd, c_chk, c_lb0, c_lb1, c_lb2, c_lb3, L0, L1, L2, L10007, nI_add, pk_mul, ile_t, ile_f, ilt_t, ilt_f, ieq_t, ieq_f, c_rmI, setF_at, setF_ne, setF_setF, true_and, up1_at, up1_ne, pk_sub, pk_cpy_in, pk_cpy_out, Nat.zero_add, Nat.add_zero, Nat.zero_mul, Nat.sub_zero, Nat.add_sub_cancel_left, c_gfR a1 a3, c_gfR a1 p1, c_ldA a4 a5, c_chkO p2.ob]
  obtain ⟨N1, s0, s1, s2, s3, s4⟩ := s_explore (J := J) p2 b1 (by omega) b2 b4 b3
  rw [s0, c_bnd]
  have hle := bI_le (expl_I b3)
  have a0 : (nI 0).toInt = 0 := by decide
  have an : (nI (expl (tcur S q)).1).toInt = ((expl (tcur S q)).1 : Int) := nI_toInt (by omega)
  have f1 : frA N N1 (o + 52) (o + 247) := s1.mono (by omega) (by omega)
  unfold f_X6_basisWord_L32
  have no : KX Γ N R J o cdA (some (.inr (0, cS N1 R J))) (1, 0, S) := kx_ko (by omega) rfl (hK.work hI f1) hI (f1.mono (by omega) (by omega)) frA.refl
  by_cases h1 : 0 ≤ y.toInt
  · rw [if_neg (fun u => by rw [Int32.lt_iff_toInt_lt, a0] at u; omega), c_gfR a1 p1 (by omega), c_gfI p2.ob, s2.1]
    by_cases h2 : y.toInt ≤ ((expl (tcur S q)).1 : Int) - 1
    · rw [if_pos (by rw [Int32.lt_iff_toInt_lt, an]; omega), if_pos (And.intro h1 h2)]
      obtain ⟨g1, _, g2⟩ := ix_of (And.intro h1 h2) (by omega) (by omega)
      generalize ix y = i at *
      subst g1
      have hi : i < (expl (tcur S q)).1 := by omega
      simp (disch := omega) only [c_bnd, c_chk, c_lb0, c_lb1, c_lb2, c_lb3, L0, L1, L2, L10007, nI_add, pk_mul, ile_t, ile_f, ilt_t, ilt_f, ieq_t, ieq_f, c_rmI, setF_at, setF_ne, setF_setF, true_and, up1_at, up1_ne, pk_sub, pk_cpy_in, pk_cpy_out, Nat.zero_add, Nat.add_zero, Nat.zero_mul, Nat.sub_zero, Nat.add_sub_cancel_left, c_gfR a1 p1, c_gfI p2.ob, c_pfI p2.ob, c_chkO p2.ob, L24, c_gfR p2.ob p2.rwords, c_gfR p2.ob p2.rweights, c_gfR p2.ob p2.rvectors, c_gfR p2.ob p2.rechelon, c_gfR p2.ob p2.rparts, c_gfR p2.ob p2.rpivots, c_gfR p2.ob p2.rimages, c_gfR p2.ob p2.rtrial, c_gfR p2.ob p2.rrest, c_gfR p2.ob p2.rcoords, c_ldI p2.gwords, c_stI p2.gwords, c_ldI p2.gweights, c_stI p2.gweights, c_ldI p2.gpivots, c_stI p2.gpivots, c_ldI p2.gtrial, c_stI p2.gtrial, c_ldI p2.grest, c_stI p2.grest, c_ldI p2.gcoords, c_stI p2.gcoords, (s2.2 i hi).1]
      exact kx_read hK hI f1 rfl
    · rw [if_neg (fun u => by rw [Int32.lt_iff_toInt_lt, an] at u; omega), if_neg (fun u => h2 u.2)]
      exact no
  · rw [if_pos (by rw [Int32.lt_iff_toInt_lt, a0]; omega), if_neg (fun u => h1 u.1)]
    exact no
theorem c_diff (hK : KI Γ N R o S) (hI : tI S) : KX Γ N R J o cdA (f_X6_differing Γ o x y (cS N R J)) (rDiff S x y) := by
  unfold f_X6_differing rDiff
  rw [if2 (P := inR x 0 3)]
  refine kx_slot rfl hK hI rfl (fun e => ?_)
  obtain ⟨e1, _, e2⟩ := ix_of e (by omega) (by omega)
  refine kx_slot rfl hK hI rfl (fun e => ?_)
  obtain ⟨e3, _, e4⟩ := ix_of e (by omega) (by omega)
  generalize ix x = q at *
  generalize ix y = q2 at *
  subst e1
  subst e3
  obtain ⟨⟨a1, a2, a3, a4, a5⟩, b1, b2, b3, b4⟩ := hK.slot hI (q := q) (by omega)
  obtain ⟨⟨_, _, _, _, c5⟩, d1, d2, d3, d4⟩ := hK.slot hI (q := q2) (by omega)
  obtain ⟨p1, p2⟩ := hK.1.2.2.2.2.2.1
  obtain ⟨m1, m2⟩ := hK.1.2.2.1
  simp (disch := omega) only [c_bnd, c_chk, c_lb0, c_lb1, c_lb2, c_lb3, L0, L1, L2, L10007, nI_add, pk_mul, ile_t, ile_f, ilt_t, ilt_f, ieq_t, ieq_f, c_rmI, setF_at, setF_ne, setF_setF, true_and, up1_at, up1_ne, pk_sub, pk_cpy_in, pk_cpy_out, Nat.zero_add, Nat.add_zero, Nat.zero_mul, Nat.sub_zero, Nat.add_sub_cancel_left, c_gfR a1 a3, c_gfR a1 m1, c_ldA a4 a5, c_ldA a4 c5, c_chkO m2.ob]
  obtain ⟨N1, s0, s1, s2⟩ := s_dif (J := J) m2 b1 d1 (by omega) (by omega) b2 b4 d2 d4 (by omega) d3
  rw [s0, c_bnd]
  simp (disch := omega) only [c_bnd, c_chk, c_lb0, c_lb1, c_lb2, c_lb3, L0, L1, L2, L10007, nI_add, pk_mul, ile_t, ile_f, ilt_t, ilt_f, ieq_t, ieq_f, c_rmI, setF_at, setF_ne, setF_setF, true_and, up1_at, up1_ne, pk_sub, pk_cpy_in, pk_cpy_out, Nat.zero_add, Nat.add_zero, Nat.zero_mul, Nat.sub_zero, Nat.add_sub_cancel_left, c_gfR a1 m1, c_gfR a1 p1, c_chkO p2.ob]
  have hD : (difA (tcur S q) (tcur S q2)).1 ≤ 24 := by show (tcur S q).1 + (tcur S q2).1 ≤ 24; omega
  obtain ⟨N2, t0, t1, t2, t3, t4⟩ := s_explore (J := J) p2 m2 (by omega) s2 hD (difA_ok b3 d3)
  rw [t0, c_bnd]
  simp (disch := omega) only [c_bnd, c_chk, c_lb0, c_lb1, c_lb2, c_lb3, L0, L1, L2, L10007, nI_add, pk_mul, ile_t, ile_f, ilt_t, ilt_f, ieq_t, ieq_f, c_rmI, setF_at, setF_ne, setF_setF, true_and, up1_at, up1_ne, pk_sub, pk_cpy_in, pk_cpy_out, Nat.zero_add, Nat.add_zero, Nat.zero_mul, Nat.sub_zero, Nat.add_sub_cancel_left, c_gfR a1 p1, c_chkO p2.ob]
  rw [s_firstW p2 (difA_ok b3 d3) hD t2 t3, c_bnd]
  exact kx_read hK hI ((s1.mono (by omega) (by omega)).trans (t1.mono (by omega) (by omega))) rfl
theorem shl_1 : ∀ L, L < 6 → (1 : Int32) <<< (nI L &&& 31) = nI (2 ^ L) := by decide
theorem c_joined {i j L : Nat} (hi : i < 31) (hj : j < 31) (h1 : 2 ^ L ≤ j + 1) (h2 : j + 1 < 2 ^ (L + 1)) {σ : zSt} : f_X6_joinedWord Γ (nI i) (nI j) σ = some (nI ((i + 1) * 2 ^ L + (j + 1 - 2 ^ L) - 1), σ) := by
  have hL : L < 5 := by
    rcases Nat.lt_or_ge L 5 with h | h
    · exact h
    · have := two_le h
      omega
  have h3 : 2 ^ L ≤ 16 := two_le (k := L) (m := 4) (by omega)
  have h4 : (i + 1) * 2 ^ L ≤ 31 * 16 := Nat.mul_le_mul (by omega) h3
  have h5 : 1 ≤ (i + 1) * 2 ^ L := Nat.mul_pos (by omega) (Nat.pow_pos (by omega))
  unfold f_X6_joinedWord
  rw [pt_len h1 h2 (by omega), c_bnd, shl_1 L (by omega), L1, nI_add, nI_add, pk_mul, pk_sub h1, nI_add, pk_sub (by omega)]
theorem hk_word {A : Au} {i j L : Nat} (h1 : 2 ^ L ≤ j + 1) (h2 : j + 1 < 2 ^ (L + 1)) : wtA A (vW A A.2.1 ((i + 1) * 2 ^ L + (j + 1 - 2 ^ L) - 1 + 1)) = hkG A i j := by
  have h5 : 1 ≤ (i + 1) * 2 ^ L := Nat.mul_pos (by omega) (Nat.pow_pos (by omega))
  rw [show (i + 1) * 2 ^ L + (j + 1 - 2 ^ L) - 1 + 1 = (i + 1) * 2 ^ L + (j + 1 - 2 ^ L) by omega]
  exact wtA_congr (fun k _ => vW_join (by omega) L (j + 1) k h1 h2)
theorem c_hankel (hK : KI Γ N R o S) (hI : tI S) : KX Γ N R J o cdA (f_X6_hankelRank Γ o x w (cS N R J)) (rHankel S x w) := by
  unfold f_X6_hankelRank rHankel
  refine kx_slot rfl hK hI rfl (fun e => ?_)
  obtain ⟨e1, _, e2⟩ := ix_of e (by omega) (by omega)
  generalize ix x = q at *
  subst e1
  obtain ⟨⟨a1, a2, a3, a4, a5⟩, b1, b2, b3, b4⟩ := hK.slot hI (q := q) (by omega)
  refine kx_range rfl (by decide) (by decide) hK hI (by omega) rfl (fun e4 => ?_)
  obtain ⟨f3, _, f4⟩ := ix_of e4 (by omega) (by omega)
  generalize ix w = m at *
  subst f3
  obtain ⟨p1, p2⟩ := hK.1.2.2.2.2.1
  obtain ⟨g1, π, g2⟩ := hK.1.2.2.2.2.2.2.1
  obtain ⟨⟨g3, _⟩, g4, g5, _⟩ := id g2
  simp (disch := omega) only [c_bnd, c_chk, c_lb0, c_lb1, c_lb2, c_lb3, L0, L1, L2, L10007, nI_add, pk_mul, ile_t, ile_f, ilt_t, ilt_f, ieq_t, ieq_f, c_rmI, setF_at, setF_ne, setF_setF, true_and, up1_at, up1_ne, pk_sub, pk_cpy_in, pk_cpy_out, Nat.zero_add, Nat.add_zero, Nat.zero_mul, Nat.sub_zero, Nat.add_sub_cancel_left, c_gfR a1 a3, c_gfR a1 p1, c_ldA a4 a5, c_chkO p2.1]
  obtain ⟨N1, s0, s1, s2⟩ := pt_start (J := J) p2 b1 (by omega) b2 b4 b4
  rw [s0, c_bnd]
  obtain ⟨N3, t0, ⟨h1, h2, h3⟩⟩ := mx_for (J := J) (R := R) (f := fun q' => f_X6_hankelRank_B26 Γ o (nI q) (nI m) q'.1 q'.2) (N := N1) (fun d N' => frA N N' (o + 68) (o + 246) ∧ ptI N' (o + 67) (tcur S q) ∧ ∀ i j, i < d → j < m → N' (R (o + 214) i) j = hkG (tcur S q) i j) (s := 0) (e := m) (by omega) (by omega) ⟨s1.mono (by omega) (by omega), s2, fun i j a _ => absurd a (by omega)⟩ (by
    intro i N2 _ hi ⟨h1, h2, h3⟩
    show Mx (f_X6_hankelRank_B26 _ _ _ _ _ _) _ _ _ _
    unfold f_X6_hankelRank_B26
    simp (disch := omega) only [c_bnd, c_chk, c_lb0, c_lb1, c_lb2, c_lb3, L0, L1, L2, L10007, nI_add, pk_mul, ile_t, ile_f, ilt_t, ilt_f, ieq_t, ieq_f, c_rmI, setF_at, setF_ne, setF_setF, true_and, up1_at, up1_ne, pk_sub, pk_cpy_in, pk_cpy_out, Nat.zero_add, Nat.add_zero, Nat.zero_mul, Nat.sub_zero, Nat.add_sub_cancel_left]
    refine mx_lb0 (mx_for (fun d N' => frA N N' (o + 68) (o + 246) ∧ ptI N' (o + 67) (tcur S q) ∧ ∀ i' j, i' < i ∨ i' = i ∧ j < d → i' < m → j < m → N' (R (o + 214) i') j = hkG (tcur S q) i' j) (s := 0) (e := m) (by omega) (by omega) ⟨h1, h2, fun i' j a _ c => h3 i' j (by omega) c⟩ ?_ ?_) ?_
    · intro j N4 _ hj ⟨k1, k2, k3⟩
      obtain ⟨r1, r2, r3, r4⟩ := g2.row (k := i) (by omega)
      obtain ⟨L, l1, l2, l3⟩ := lg_ex 4 (j + 1) (by omega) (by show j + 1 < 32; omega)
      have l4 : 2 ^ L ≤ 16 := two_le (k := L) (m := 4) l1
      have l5 : (i + 1) * 2 ^ L ≤ 31 * 16 := Nat.mul_le_mul (by omega) l4
      show Mx (f_X6_hankelRank_B34 _ _ _ _ _ _ _) _ _ _ _
      unfold f_X6_hankelRank_B34
      simp (disch := omega) only [c_bnd, c_chk, c_lb0, c_lb1, c_lb2, c_lb3, L0, L1, L2, L10007, nI_add, pk_mul, ile_t, ile_f, ilt_t, ilt_f, ieq_t, ieq_f, c_rmI, setF_at, setF_ne, setF_setF, true_and, up1_at, up1_ne, pk_sub, pk_cpy_in, pk_cpy_out, Nat.zero_add, Nat.add_zero, Nat.zero_mul, Nat.sub_zero, Nat.add_sub_cancel_left, c_gfR a1 a3, c_gfR a1 p1, c_gfR a1 g1, c_gfR g3 g5, c_ldG g4 rfl r2, c_ldA a4 a5, c_chkO p2.1]
      rw [c_joined (by omega) (by omega) l2 l3, c_bnd]
      refine mx_bnd (pt_weigh p2 b1 (by omega) (b2.fr k1 (by omega)) b4 b4 b3 k2 (by omega)) ?_
      intro N5 ⟨t1, t2⟩
      rw [hk_word l2 l3]
      simp (disch := omega) only [c_bnd, c_chk, c_lb0, c_lb1, c_lb2, c_lb3, L0, L1, L2, L10007, nI_add, pk_mul, ile_t, ile_f, ilt_t, ilt_f, ieq_t, ieq_f, c_rmI, setF_at, setF_ne, setF_setF, true_and, up1_at, up1_ne, pk_sub, pk_cpy_in, pk_cpy_out, Nat.zero_add, Nat.add_zero, Nat.zero_mul, Nat.sub_zero, Nat.add_sub_cancel_left, c_stI r1]
      refine mx_eq rfl ⟨(k1.trans (t1.mono (by omega) (by omega))).trans (frA.set (by omega) (by omega)), ?_, fun i' j' c1 c2 c3 => ?_⟩
      · refine ⟨fun k hk => by rw [setF_ne (by omega)]; exact t2.1 k hk, fun k hk1 hk2 => ?_⟩
        rw [setF_ne (by omega), setF_ne (by omega)]
        exact t2.2 k hk1 hk2
      · by_cases e5 : i' = i
        · subst e5
          rw [setF_at]
          by_cases e6 : j' = j
          · subst e6
            exact up1_at
          · rw [up1_ne e6, t1 _ (by omega)]
            exact k3 i' j' (by omega) c2 c3
        · rw [setF_ne (g2.inj (by omega) (by omega) e5)]
          obtain ⟨_, _, r7, r8⟩ := g2.row (k := i') (by omega)
          rw [t1 _ (by omega)]
          exact k3 i' j' (by omega) c2 c3
    · intro N4 _
      show f_X6_hankelRank_B34 _ _ _ _ _ _ _ = _
      unfold f_X6_hankelRank_B34
      simp (disch := omega) only [c_bnd, c_chk, c_lb0, c_lb1, c_lb2, c_lb3, L0, L1, L2, L10007, nI_add, pk_mul, ile_t, ile_f, ilt_t, ilt_f, ieq_t, ieq_f, c_rmI, setF_at, setF_ne, setF_setF, true_and, up1_at, up1_ne, pk_sub, pk_cpy_in, pk_cpy_out, Nat.zero_add, Nat.add_zero, Nat.zero_mul, Nat.sub_zero, Nat.add_sub_cancel_left]
    · intro N4 ⟨k1, k2, k3⟩
      exact mx_eq rfl ⟨k1, k2, fun i' j a c => k3 i' j (by omega) (by omega) c⟩) (by
    intro N2 _
    show f_X6_hankelRank_B26 _ _ _ _ _ _ = _
    unfold f_X6_hankelRank_B26
    simp (disch := omega) only [c_bnd, c_chk, c_lb0, c_lb1, c_lb2, c_lb3, L0, L1, L2, L10007, nI_add, pk_mul, ile_t, ile_f, ilt_t, ilt_f, ieq_t, ieq_f, c_rmI, setF_at, setF_ne, setF_setF, true_and, up1_at, up1_ne, pk_sub, pk_cpy_in, pk_cpy_out, Nat.zero_add, Nat.add_zero, Nat.zero_mul, Nat.sub_zero, Nat.add_sub_cancel_left])
  rw [t0, c_lb0]
  simp (disch := omega) only [c_bnd, c_chk, c_lb0, c_lb1, c_lb2, c_lb3, L0, L1, L2, L10007, nI_add, pk_mul, ile_t, ile_f, ilt_t, ilt_f, ieq_t, ieq_f, c_rmI, setF_at, setF_ne, setF_setF, true_and, up1_at, up1_ne, pk_sub, pk_cpy_in, pk_cpy_out, Nat.zero_add, Nat.add_zero, Nat.zero_mul, Nat.sub_zero, Nat.add_sub_cancel_left, c_gfR a1 g1, c_chkO g3]
  obtain ⟨N4, R4, u0, u1, u2, u3⟩ := c_rank (J := J) g2 (show m ≤ 31 by omega) (show m ≤ 31 by omega) (G := hkG (tcur S q)) h3 (fun k j _ _ => wtA_lt)
  rw [u0, c_bnd]
  have f1 : frA N N4 (o + 52) (o + 247) := (h1.mono (by omega) (by omega)).trans (u2.mono (by omega) (by omega))
  exact kx_ok rfl (hK.grid hI f1 u3 u1) hI (f1.mono (by omega) (by omega)) (fun x hx => u3 x (by omega))
theorem c_inverse (hK : KI Γ N R o S) (hI : tI S) : KX Γ N R J o (fun k => k) (f_X6_inverse Γ o x (cS N R J)) (rInverse S x) := by
  unfold f_X6_inverse rInverse
  refine kx_range rfl (by decide) (by decide) hK hI (by omega) rfl (fun e4 => ?_)
  obtain ⟨f3, _, f4⟩ := ix_of e4 (by omega) (by omega)
  generalize ix x = m at *
  subst f3
  rw [s_rcp (by omega), c_bnd]
  exact kx_read hK hI frA.refl rfl
end CR2
