/-! ===== the class's calls that write ===== -/
section CX1
variable {Γ : zSh} {N N' R R' : Mem} {J : Nat → Nat → Int64} {o q : Nat} {S : tS} {x y z l b v w t k : Int32} {r1 : Rs} {cd : Nat → Nat} {A : Au}
/-- behind a save: the slot written -/
theorem kx_put {N1 N2 R1 : Mem} {u : Option ((Int32 × zSt) ⊕ (Nat × zSt))} {r : Int32} {B : Au} (hI : tI S) (hq : q < 4) (k1 : KI Γ N1 R1 o (tsv S q B)) (f1 : ∀ x, x < o ∨ o + 52 ≤ x → N1 x = N x) (g1 : ∀ x, x ≠ o + 26 → R1 x = R x) (f2 : frA N1 N2 (o + 2 + 6 * q) (o + 2 + 6 * q + 6)) (hA : cAu N2 (o + 2 + 6 * q) A) (ok : okA A) (h12 : A.1 ≤ 12) (e : u = some (.inl (r, cS N2 R1 J))) : KX Γ N R J o cd u (0, r, tsv S q A) := kx_ok e (k1.set hI hq f2 hA) (tsv_I hI hq ok h12) (fun x hx => by rw [f2 x (by omega)]; exact f1 x (by omega)) (fun x hx => g1 x (by omega))
theorem c_begin (hK : KI Γ N R o S) (hI : tI S) : KX Γ N R J o cdA (f_X6_begin Γ o x y (cS N R J)) (rBegin S x y) := by
  unfold f_X6_begin rBegin
  refine kx_slot rfl hK hI rfl (fun e => ?_)
  obtain ⟨e1, _, e2⟩ := ix_of e (by omega) (by omega)
  generalize ix x = q at *
  subst e1
  obtain ⟨⟨a1, a2, a3, a4, a5⟩, b1, b2, b3, b4⟩ := hK.slot hI (q := q) (by omega)
  refine kx_range rfl (by decide) (by decide) hK hI (by omega) rfl (fun e4 => ?_)
  obtain ⟨f3, _, f4⟩ := ix_of e4 (by omega) (by omega)
  generalize ix y = n at *
  subst f3
  obtain ⟨N1, R1, s0, k1, s1, s2⟩ := hK.save (J := J) hI (q := q) (by omega)
  simp (disch := omega) only [c_bnd, c_chk, c_lb0, c_lb1, c_lb2, c_lb3, L0, L1, L2, L10007, nI_add, pk_mul, ile_t, ile_f, ilt_t, ilt_f, ieq_t, ieq_f, c_rmI, setF_at, setF_ne, setF_setF, true_and, up1_at, up1_ne, pk_sub, pk_cpy_in, pk_cpy_out, Nat.zero_add, Nat.add_zero, Nat.zero_mul, Nat.sub_zero, Nat.add_sub_cancel_left, c_gfR a1 a3, c_ldA a4 a5, c_gfI b1.ob, c_chkO a1, b2.1]
  rw [s0, c_bnd]
  obtain ⟨_, d1, d2, d3, d4⟩ := k1.slot (tsv_I hI (by omega) b3 b4) (q := q) (by omega)
  obtain ⟨N2, t0, t1, t2, t3, t4⟩ := s_clear (J := J) (N := N1) d1 (n := n) (by omega)
  rw [c_chkO d1.ob, t0, c_bnd]
  refine kx_put hI (by omega) k1 s1 s2 t1 ⟨t2, fun i hi => ⟨(t3 i hi).1, (t3 i hi).2, fun j l hj hl => t4 l _ hl (ix_lt' hi hj)⟩⟩ zerA_ok (show n ≤ 12 by omega) rfl
theorem c_random (hK : KI Γ N R o S) (hI : tI S) : KX Γ N R J o cdA (f_X6_random Γ o x y z (cS N R J)) (rRandom S x y z) := by
  unfold f_X6_random rRandom
  rw [if2 (P := inR y 0 12) (Q := inR z 0 999999)]
  refine kx_slot rfl hK hI rfl (fun e => ?_)
  obtain ⟨e1, _, e2⟩ := ix_of e (by omega) (by omega)
  generalize ix x = q at *
  subst e1
  obtain ⟨⟨a1, a2, a3, a4, a5⟩, b1, b2, b3, b4⟩ := hK.slot hI (q := q) (by omega)
  refine kx_range rfl (by decide) (by decide) hK hI (by omega) rfl (fun e4 => ?_)
  obtain ⟨f3, _, f4⟩ := ix_of e4 (by omega) (by omega)
  generalize ix y = n at *
  subst f3
  refine kx_range rfl (by decide) (by decide) hK hI (by omega) rfl (fun e5 => ?_)
  obtain ⟨f5, _, f6⟩ := ix_of e5 (by omega) (by omega)
  generalize ix z = s at *
  subst f5
  obtain ⟨N1, R1, s0, k1, s1, s2⟩ := hK.save (J := J) hI (q := q) (by omega)
  obtain ⟨⟨c1, c2, c3, c4, c5⟩, d1, d2, d3, d4⟩ := k1.slot (tsv_I hI (by omega) b3 b4) (q := q) (by omega)
  rw [c_chkO a1, s0, c_bnd]
  obtain ⟨N2, t0, t1, t2⟩ := s_draw (J := J) (N := N1) d1 (n := n) (by omega) (s := s) (by omega)
  simp (disch := omega) only [c_bnd, c_chk, c_lb0, c_lb1, c_lb2, c_lb3, L0, L1, L2, L10007, nI_add, pk_mul, ile_t, ile_f, ilt_t, ilt_f, ieq_t, ieq_f, c_rmI, setF_at, setF_ne, setF_setF, true_and, up1_at, up1_ne, pk_sub, pk_cpy_in, pk_cpy_out, Nat.zero_add, Nat.add_zero, Nat.zero_mul, Nat.sub_zero, Nat.add_sub_cancel_left, c_gfR c1 c3, c_ldA c4 c5, c_chkO d1.ob]
  rw [t0, c_bnd]
  simp (disch := omega) only [c_bnd, c_chk, c_lb0, c_lb1, c_lb2, c_lb3, L0, L1, L2, L10007, nI_add, pk_mul, ile_t, ile_f, ilt_t, ilt_f, ieq_t, ieq_f, c_rmI, setF_at, setF_ne, setF_setF, true_and, up1_at, up1_ne, pk_sub, pk_cpy_in, pk_cpy_out, Nat.zero_add, Nat.add_zero, Nat.zero_mul, Nat.sub_zero, Nat.add_sub_cancel_left, c_gfR c1 c3, c_ldA c4 c5, c_chkO d1.ob]
  rw [s_empty d1 t2 (show n ≤ 12 by omega) drwA_ok, c_bnd]
  exact kx_put hI (by omega) k1 s1 s2 t1 t2 drwA_ok (show n ≤ 12 by omega) rfl
theorem c_scale (hK : KI Γ N R o S) (hI : tI S) : KX Γ N R J o cdA (f_X6_scale Γ o x y (cS N R J)) (rScale S x y) := by
  unfold f_X6_scale rScale
  refine kx_slot rfl hK hI rfl (fun e => ?_)
  obtain ⟨e1, _, e2⟩ := ix_of e (by omega) (by omega)
  generalize ix x = q at *
  subst e1
  obtain ⟨⟨a1, a2, a3, a4, a5⟩, b1, b2, b3, b4⟩ := hK.slot hI (q := q) (by omega)
  refine kx_range rfl (by decide) (by decide) hK hI (by omega) rfl (fun e4 => ?_)
  obtain ⟨f3, _, f4⟩ := ix_of e4 (by omega) (by omega)
  generalize ix y = c at *
  subst f3
  obtain ⟨N1, R1, s0, k1, s1, s2⟩ := hK.save (J := J) hI (q := q) (by omega)
  obtain ⟨⟨c1, c2, c3, c4, c5⟩, d1, d2, d3, d4⟩ := k1.slot (tsv_I hI (by omega) b3 b4) (q := q) (by omega)
  rw [tcur_sv] at d2
  rw [c_chkO a1, s0, c_bnd]
  simp (disch := omega) only [c_bnd, c_chk, c_lb0, c_lb1, c_lb2, c_lb3, L0, L1, L2, L10007, nI_add, pk_mul, ile_t, ile_f, ilt_t, ilt_f, ieq_t, ieq_f, c_rmI, setF_at, setF_ne, setF_setF, true_and, up1_at, up1_ne, pk_sub, pk_cpy_in, pk_cpy_out, Nat.zero_add, Nat.add_zero, Nat.zero_mul, Nat.sub_zero, Nat.add_sub_cancel_left, c_gfR c1 c3, c_ldA c4 c5, c_gfI d1.ob, c_pfI d1.ob, c_gfR d1.ob d1.r1, c_gfR d1.ob d1.r2, c_gfR d1.ob d1.r3, c_ldI d1.g1, c_ldI d1.g2, c_stI d1.g1, c_stI d1.g2, c_chkO d1.ob, d2.1]
  rw [s_mul d1.g1 (by omega) b4 (by omega) (fun i hi => by rw [(d2.2 i hi).1]; exact (b3 i hi).1), c_bnd]
  have hA : cAu (setF N1 (o + 2 + 6 * q + 1) (fun i => if i < (tcur S q).1 then N1 (o + 2 + 6 * q + 1) i * c % 10007 else N1 (o + 2 + 6 * q + 1) i)) (o + 2 + 6 * q) (scaA (tcur S q) c) := by
    refine ⟨by rw [setF_ne (by omega)]; exact d2.1, fun i hi => ⟨?_, ?_, fun j l hj hl => ?_⟩⟩
    · have hi' : i < (tcur S q).1 := hi
      rw [setF_at, if_pos hi', (d2.2 i hi).1]
      rfl
    · rw [setF_ne (by omega)]; exact (d2.2 i hi).2.1
    · rw [setF_ne (by omega)]; exact (d2.2 i hi).2.2 j l hj hl
  rw [s_empty d1 hA b4 (scaA_ok b3), c_bnd]
  exact kx_put hI (by omega) k1 s1 s2 (frA.set (by omega) (by omega)) hA (scaA_ok b3) b4 rfl
theorem c_store (hK : KI Γ N R o S) (hI : tI S) (hq : q < 4) (hA : cAu N (o + 52) A) (ok : okA A) (h12 : A.1 ≤ 12) : MxR (f_X6_store Γ o (nI q) (cS N R J)) (fun σ => (nI A.1, σ)) J (fun N' R' => KI Γ N' R' o (tsv S q A) ∧ (∀ x, x < o ∨ o + 52 ≤ x → N' x = N x) ∧ (∀ x, x ≠ o + 26 → R' x = R x)) := by
  obtain ⟨⟨a1, a2, a3, a4, a5⟩, b1, b2, b3, b4⟩ := hK.slot hI hq
  obtain ⟨N1, R1, s0, k1, s1, s2⟩ := hK.save (J := J) hI hq
  obtain ⟨⟨c1, c2, c3, c4, c5⟩, d1, d2, d3, d4⟩ := k1.slot (tsv_I hI hq b3 b4) hq
  obtain ⟨m1, m2⟩ := k1.1.2.1
  have hA1 : cAu N1 (o + 52) A := ⟨by rw [s1 _ (by omega)]; exact hA.1, fun i hi => ⟨by rw [s1 _ (by omega)]; exact (hA.2 i hi).1, by rw [s1 _ (by omega)]; exact (hA.2 i hi).2.1, fun j l hj hl => by rw [s1 _ (by omega)]; exact (hA.2 i hi).2.2 j l hj hl⟩⟩
  unfold f_X6_store
  rw [c_chkO a1, s0, c_bnd]
  obtain ⟨N2, t0, t1, t2⟩ := s_copy (J := J) d1 m2 (by omega) hA1 h12 h12
  simp (disch := omega) only [c_bnd, c_chk, c_lb0, c_lb1, c_lb2, c_lb3, L0, L1, L2, L10007, nI_add, pk_mul, ile_t, ile_f, ilt_t, ilt_f, ieq_t, ieq_f, c_rmI, setF_at, setF_ne, setF_setF, true_and, up1_at, up1_ne, pk_sub, pk_cpy_in, pk_cpy_out, Nat.zero_add, Nat.add_zero, Nat.zero_mul, Nat.sub_zero, Nat.add_sub_cancel_left, c_gfR c1 c3, c_gfR c1 m1, c_ldA c4 c5, c_chkO d1.ob]
  rw [t0, c_bnd]
  have e9 : N2 (o + 52) 0 = A.1 := by rw [t1 _ (by omega)]; exact hA1.1
  simp (disch := omega) only [c_bnd, c_chk, c_lb0, c_lb1, c_lb2, c_lb3, L0, L1, L2, L10007, nI_add, pk_mul, ile_t, ile_f, ilt_t, ilt_f, ieq_t, ieq_f, c_rmI, setF_at, setF_ne, setF_setF, true_and, up1_at, up1_ne, pk_sub, pk_cpy_in, pk_cpy_out, Nat.zero_add, Nat.add_zero, Nat.zero_mul, Nat.sub_zero, Nat.add_sub_cancel_left, c_gfR c1 m1, c_gfI m2.ob, c_pfI m2.ob, c_gfR m2.ob m2.r1, c_gfR m2.ob m2.r2, c_gfR m2.ob m2.r3, c_ldI m2.g1, c_ldI m2.g2, c_stI m2.g1, c_stI m2.g2, c_chkO m2.ob, e9]
  exact mr_eq rfl ⟨k1.set hI hq t1 t2, fun x hx => by rw [t1 x (by omega)]; exact s1 x hx, s2⟩
/-- a call that stores what lies in scratch -/
theorem kx_store {N1 : Mem} {u : Option ((Int32 × zSt) ⊕ (Nat × zSt))} (hK : KI Γ N R o S) (hI : tI S) (hq : q < 4) (f1 : frA N N1 (o + 52) (o + 247)) (hA : cAu N1 (o + 52) A) (ok : okA A) (h12 : A.1 ≤ 12) (e : u = (chk (isO Γ o 6) <| bnd (f_X6_store Γ o (nI q) (cS N1 R J)) fun r14 σ13 => some (.inl (r14, σ13)))) : KX Γ N R J o cd u (0, nI A.1, tsv S q A) := by
  obtain ⟨⟨a1, _⟩, _⟩ := hK.slot hI hq
  obtain ⟨N2, R2, t0, t1, t2, t3⟩ := c_store (J := J) (hK.work hI f1) hI hq hA ok h12
  rw [e, c_chkO a1, t0, c_bnd]
  exact kx_ok rfl t1 (tsv_I hI hq ok h12) (fun x hx => by rw [t2 x (by omega)]; exact f1 x (by omega)) (fun x hx => t3 x (by omega))
end CX1
