/-! ===== the class: combine, derive, undo, the text ===== -/
theorem CAu_fr {N N' : Mem} {a : Nat} {A : Au} (h : cAu N a A) (e : ∀ x, a ≤ x → x < a + 6 → N' x = N x) : cAu N' a A := by
  refine ⟨by rw [e a (by omega) (by omega)]; exact h.1, fun i hi => ⟨?_, ?_, fun j l hj hl => ?_⟩⟩
  · rw [e (a + 1) (by omega) (by omega)]; exact (h.2 i hi).1
  · rw [e (a + 2) (by omega) (by omega)]; exact (h.2 i hi).2.1
  · rw [e (a + 4 + l) (by omega) (by omega)]; exact (h.2 i hi).2.2 j l hj hl
section CY
variable {Γ : zSh} {N N' R R' : Mem} {J : Nat → Nat → Int64} {o q : Nat} {S : tS} {x y z l b v w t k : Int32} {r1 : Rs} {cd : Nat → Nat} {A : Au}
theorem c_combine (hK : KI Γ N R o S) (hI : tI S) : KX Γ N R J o cdA (f_X6_combine Γ o t x y k (cS N R J)) (rCombine S t x y k) := by
  unfold f_X6_combine rCombine
  rw [if2 (P := inR t 0 3), if2 (P := inR x 0 3)]
  refine kx_slot rfl hK hI rfl (fun e => ?_)
  obtain ⟨e1, _, e2⟩ := ix_of e (by omega) (by omega)
  refine kx_slot rfl hK hI rfl (fun e => ?_)
  obtain ⟨e3, _, e4⟩ := ix_of e (by omega) (by omega)
  refine kx_slot rfl hK hI rfl (fun e => ?_)
  obtain ⟨e5, _, e6⟩ := ix_of e (by omega) (by omega)
  refine kx_range rfl (by decide) (by decide) hK hI (by omega) rfl (fun e => ?_)
  obtain ⟨e7, _, e8⟩ := ix_of e (by omega) (by omega)
  generalize ix t = q at *
  generalize ix x = q1 at *
  generalize ix y = q2 at *
  generalize ix k = c at *
  subst e1
  subst e3
  subst e5
  subst e7
  obtain ⟨⟨a1, a2, a3, a4, a5⟩, b1, b2, b3, b4⟩ := hK.slot hI (q := q1) (by omega)
  obtain ⟨⟨_, _, _, _, c5⟩, d1, d2, d3, d4⟩ := hK.slot hI (q := q2) (by omega)
  obtain ⟨s1, s2⟩ := hK.1.2.1
  have hn := comA_n (X := tcur S q1) (Y := tcur S q2) (kind := c)
  have hm : (tcur S q1).1 * (tcur S q2).1 ≤ 12 * 12 := Nat.mul_le_mul b4 d4
  have hn2 : (comA (tcur S q1) (tcur S q2) c).1 ≤ 144 := by
    rw [hn]
    by_cases e9 : c = 1
    · rw [if_pos e9]; omega
    · rw [if_neg e9]; omega
  have key : KX Γ N R J o cdA (f_X6_combine_L66 Γ o (nI q) (nI c) (o + 2 + 6 * q1) (o + 2 + 6 * q2) (nI (comA (tcur S q1) (tcur S q2) c).1) (cS N R J)) (if (comA (tcur S q1) (tcur S q2) c).1 ≤ 12 then (0, nI (comA (tcur S q1) (tcur S q2) c).1, tsv S q (comA (tcur S q1) (tcur S q2) c)) else (3, 0, S)) := by
    unfold f_X6_combine_L66 f_X6_combine_L135
    rw [L12]
    by_cases e5 : (comA (tcur S q1) (tcur S q2) c).1 ≤ 12
    · rw [if_pos e5, ile_t e5 (by omega)]
      rcases (by omega : c = 0 ∨ c = 1 ∨ c = 2) with rfl | rfl | rfl
      · have hc : comA (tcur S q1) (tcur S q2) 0 = sumA (tcur S q1) (tcur S q2) := if_pos rfl
        rw [hc] at e5 ⊢
        simp (disch := omega) only [c_bnd, c_chk, c_lb0, c_lb1, c_lb2, c_lb3, L0, L1, L2, L10007, nI_add, pk_mul, ile_t, ile_f, ilt_t, ilt_f, ieq_t, ieq_f, c_rmI, setF_at, setF_ne, setF_setF, true_and, up1_at, up1_ne, pk_sub, pk_cpy_in, pk_cpy_out, Nat.zero_add, Nat.add_zero, Nat.zero_mul, Nat.sub_zero, Nat.add_sub_cancel_left, c_gfR a1 s1, c_chkO s2.ob]
        obtain ⟨N1, t0, t1, t2⟩ := s_sum (J := J) s2 b1 d1 (by omega) (by omega) b2 b4 d2 d4 e5
        rw [t0, c_bnd]
        exact kx_store hK hI (by omega) (t1.mono (by omega) (by omega)) t2 (sumA_ok b3 d3) e5 rfl
      · have hc : comA (tcur S q1) (tcur S q2) 1 = hadA (tcur S q1) (tcur S q2) := rfl
        rw [hc] at e5 ⊢
        simp (disch := omega) only [c_bnd, c_chk, c_lb0, c_lb1, c_lb2, c_lb3, L0, L1, L2, L10007, nI_add, pk_mul, ile_t, ile_f, ilt_t, ilt_f, ieq_t, ieq_f, c_rmI, setF_at, setF_ne, setF_setF, true_and, up1_at, up1_ne, pk_sub, pk_cpy_in, pk_cpy_out, Nat.zero_add, Nat.add_zero, Nat.zero_mul, Nat.sub_zero, Nat.add_sub_cancel_left, c_gfR a1 s1, c_chkO s2.ob]
        obtain ⟨N1, t0, t1, t2⟩ := s_had (J := J) s2 b1 d1 (by omega) (by omega) b2 b4 d2 d4 e5 b3 d3
        rw [t0, c_bnd]
        exact kx_store hK hI (by omega) (t1.mono (by omega) (by omega)) t2 hadA_ok e5 rfl
      · have hc : comA (tcur S q1) (tcur S q2) 2 = cauA (tcur S q1) (tcur S q2) := rfl
        rw [hc] at e5 ⊢
        simp (disch := omega) only [c_bnd, c_chk, c_lb0, c_lb1, c_lb2, c_lb3, L0, L1, L2, L10007, nI_add, pk_mul, ile_t, ile_f, ilt_t, ilt_f, ieq_t, ieq_f, c_rmI, setF_at, setF_ne, setF_setF, true_and, up1_at, up1_ne, pk_sub, pk_cpy_in, pk_cpy_out, Nat.zero_add, Nat.add_zero, Nat.zero_mul, Nat.sub_zero, Nat.add_sub_cancel_left, c_gfR a1 s1, c_chkO s2.ob]
        obtain ⟨N1, t0, t1, t2⟩ := s_cau (J := J) s2 b1 d1 (by omega) (by omega) b2 b4 d2 d4 e5 b3 d3
        rw [t0, c_bnd]
        exact kx_store hK hI (by omega) (t1.mono (by omega) (by omega)) t2 (cauA_ok b3 d3) e5 rfl
    · rw [if_neg e5, ile_f (by omega) (by omega)]
      exact kx_ko (by omega) rfl hK hI frA.refl frA.refl
  by_cases e9 : c = 1
  · rw [if_pos e9] at hn
    rw [hn] at key
    rw [hn]
    simp (disch := omega) only [c_bnd, c_chk, c_lb0, c_lb1, c_lb2, c_lb3, L0, L1, L2, L10007, nI_add, pk_mul, ile_t, ile_f, ilt_t, ilt_f, ieq_t, ieq_f, c_rmI, setF_at, setF_ne, setF_setF, true_and, up1_at, up1_ne, pk_sub, pk_cpy_in, pk_cpy_out, Nat.zero_add, Nat.add_zero, Nat.zero_mul, Nat.sub_zero, Nat.add_sub_cancel_left, c_gfR a1 a3, c_ldA a4 a5, c_ldA a4 c5, c_gfI b1.ob, c_gfI d1.ob, b2.1, d2.1]
    exact key
  · rw [if_neg e9] at hn
    rw [hn] at key
    rw [hn]
    simp (disch := omega) only [c_bnd, c_chk, c_lb0, c_lb1, c_lb2, c_lb3, L0, L1, L2, L10007, nI_add, pk_mul, ile_t, ile_f, ilt_t, ilt_f, ieq_t, ieq_f, c_rmI, setF_at, setF_ne, setF_setF, true_and, up1_at, up1_ne, pk_sub, pk_cpy_in, pk_cpy_out, Nat.zero_add, Nat.add_zero, Nat.zero_mul, Nat.sub_zero, Nat.add_sub_cancel_left, c_gfR a1 a3, c_ldA a4 a5, c_ldA a4 c5, c_gfI b1.ob, c_gfI d1.ob, b2.1, d2.1]
    exact key
theorem c_derive (hK : KI Γ N R o S) (hI : tI S) : KX Γ N R J o cdA (f_X6_derive Γ o t x k (cS N R J)) (rDerive S t x k) := by
  unfold f_X6_derive rDerive
  rw [if2 (P := inR t 0 3)]
  refine kx_slot rfl hK hI rfl (fun e => ?_)
  obtain ⟨e1, _, e2⟩ := ix_of e (by omega) (by omega)
  refine kx_slot rfl hK hI rfl (fun e => ?_)
  obtain ⟨e3, _, e4⟩ := ix_of e (by omega) (by omega)
  refine kx_range rfl (by decide) (by decide) hK hI (by omega) rfl (fun e => ?_)
  obtain ⟨e7, _, e8⟩ := ix_of e (by omega) (by omega)
  generalize ix t = q at *
  generalize ix x = q1 at *
  generalize ix k = c at *
  subst e1
  subst e3
  subst e7
  obtain ⟨⟨a1, a2, a3, a4, a5⟩, b1, b2, b3, b4⟩ := hK.slot hI (q := q1) (by omega)
  obtain ⟨s1, s2⟩ := hK.1.2.1
  obtain ⟨p1, p2⟩ := hK.1.2.2.2.2.2.1
  have key : (c = 2 → (tcur S q1).1 < 12) → KX Γ N R J o cdA (f_X6_derive_L46 Γ o (nI q) (nI c) (o + 2 + 6 * q1) (cS N R J)) (0, nI (derA (tcur S q1) c).1, tsv S q (derA (tcur S q1) c)) := by
    intro h2
    have ok := derA_ok (k := c) b3
    have hle := derA_le (k := c) b3 b4 h2
    unfold f_X6_derive_L46 f_X6_derive_L172
    obtain ⟨N1, t0, t1, t2⟩ := s_copy (J := J) s2 b1 (by omega) b2 b4 b4
    simp (disch := omega) only [c_bnd, c_chk, c_lb0, c_lb1, c_lb2, c_lb3, L0, L1, L2, L10007, nI_add, pk_mul, ile_t, ile_f, ilt_t, ilt_f, ieq_t, ieq_f, c_rmI, setF_at, setF_ne, setF_setF, true_and, up1_at, up1_ne, pk_sub, pk_cpy_in, pk_cpy_out, Nat.zero_add, Nat.add_zero, Nat.zero_mul, Nat.sub_zero, Nat.add_sub_cancel_left, c_gfR a1 s1, c_chkO s2.ob]
    rw [t0, c_bnd]
    rcases (by omega : c = 0 ∨ c = 1 ∨ c = 2 ∨ c = 3 ∨ c = 4 ∨ c = 5 ∨ c = 6) with rfl | rfl | rfl | rfl | rfl | rfl | rfl
    · simp (disch := omega) only [c_bnd, c_chk, c_lb0, c_lb1, c_lb2, c_lb3, L0, L1, L2, L10007, nI_add, pk_mul, ile_t, ile_f, ilt_t, ilt_f, ieq_t, ieq_f, c_rmI, setF_at, setF_ne, setF_setF, true_and, up1_at, up1_ne, pk_sub, pk_cpy_in, pk_cpy_out, Nat.zero_add, Nat.add_zero, Nat.zero_mul, Nat.sub_zero, Nat.add_sub_cancel_left, L3, L4, L5, L6]
      exact kx_store hK hI (by omega) (t1.mono (by omega) (by omega)) t2 ok hle rfl
    · simp (disch := omega) only [c_bnd, c_chk, c_lb0, c_lb1, c_lb2, c_lb3, L0, L1, L2, L10007, nI_add, pk_mul, ile_t, ile_f, ilt_t, ilt_f, ieq_t, ieq_f, c_rmI, setF_at, setF_ne, setF_setF, true_and, up1_at, up1_ne, pk_sub, pk_cpy_in, pk_cpy_out, Nat.zero_add, Nat.add_zero, Nat.zero_mul, Nat.sub_zero, Nat.add_sub_cancel_left, c_gfR a1 s1, c_chkO s2.ob]
      obtain ⟨N2, u0, u1, u2⟩ := s_reverse (J := J) s2 t2 b4
      rw [u0, c_bnd]
      exact kx_store hK hI (by omega) ((t1.trans u1).mono (by omega) (by omega)) u2 ok hle rfl
    · simp (disch := omega) only [c_bnd, c_chk, c_lb0, c_lb1, c_lb2, c_lb3, L0, L1, L2, L10007, nI_add, pk_mul, ile_t, ile_f, ilt_t, ilt_f, ieq_t, ieq_f, c_rmI, setF_at, setF_ne, setF_setF, true_and, up1_at, up1_ne, pk_sub, pk_cpy_in, pk_cpy_out, Nat.zero_add, Nat.add_zero, Nat.zero_mul, Nat.sub_zero, Nat.add_sub_cancel_left, c_gfR a1 s1, c_chkO s2.ob]
      obtain ⟨N2, u0, u1, u2⟩ := s_star (J := J) s2 b1 (by omega) (b2.fr t1 (by omega)) b4 (by have := h2 rfl; omega) b3
      rw [u0, c_bnd]
      exact kx_store hK hI (by omega) ((t1.trans u1).mono (by omega) (by omega)) u2 ok hle rfl
    · simp (disch := omega) only [c_bnd, c_chk, c_lb0, c_lb1, c_lb2, c_lb3, L0, L1, L2, L10007, nI_add, pk_mul, ile_t, ile_f, ilt_t, ilt_f, ieq_t, ieq_f, c_rmI, setF_at, setF_ne, setF_setF, true_and, up1_at, up1_ne, pk_sub, pk_cpy_in, pk_cpy_out, Nat.zero_add, Nat.add_zero, Nat.zero_mul, Nat.sub_zero, Nat.add_sub_cancel_left, c_gfR a1 s1, c_chkO s2.ob, L3]
      obtain ⟨N2, u0, u1, u2⟩ := s_after (J := J) s2 b1 (by omega) (b2.fr t1 (by omega)) t2 b4 b4 b3 (l := 0) (by omega)
      rw [u0, c_bnd]
      exact kx_store hK hI (by omega) ((t1.trans u1).mono (by omega) (by omega)) u2 ok hle rfl
    · simp (disch := omega) only [c_bnd, c_chk, c_lb0, c_lb1, c_lb2, c_lb3, L0, L1, L2, L10007, nI_add, pk_mul, ile_t, ile_f, ilt_t, ilt_f, ieq_t, ieq_f, c_rmI, setF_at, setF_ne, setF_setF, true_and, up1_at, up1_ne, pk_sub, pk_cpy_in, pk_cpy_out, Nat.zero_add, Nat.add_zero, Nat.zero_mul, Nat.sub_zero, Nat.add_sub_cancel_left, c_gfR a1 s1, c_chkO s2.ob, L3, L4]
      obtain ⟨N2, u0, u1, u2⟩ := s_after (J := J) s2 b1 (by omega) (b2.fr t1 (by omega)) t2 b4 b4 b3 (l := 1) (by omega)
      rw [u0, c_bnd]
      exact kx_store hK hI (by omega) ((t1.trans u1).mono (by omega) (by omega)) u2 ok hle rfl
    · simp (disch := omega) only [c_bnd, c_chk, c_lb0, c_lb1, c_lb2, c_lb3, L0, L1, L2, L10007, nI_add, pk_mul, ile_t, ile_f, ilt_t, ilt_f, ieq_t, ieq_f, c_rmI, setF_at, setF_ne, setF_setF, true_and, up1_at, up1_ne, pk_sub, pk_cpy_in, pk_cpy_out, Nat.zero_add, Nat.add_zero, Nat.zero_mul, Nat.sub_zero, Nat.add_sub_cancel_left, c_gfR a1 s1, c_gfR a1 p1, c_chkO p2.ob, L3, L4, L5]
      obtain ⟨N2, u0, u1, u2⟩ := s_reduce (J := J) p2 s2 (by omega) t2 b4 b3
      rw [u0, c_bnd]
      exact kx_store hK hI (by omega) (fun x hx => by rw [u1 x (by omega) (by omega)]; exact t1 x (by omega)) u2 ok hle rfl
    · simp (disch := omega) only [c_bnd, c_chk, c_lb0, c_lb1, c_lb2, c_lb3, L0, L1, L2, L10007, nI_add, pk_mul, ile_t, ile_f, ilt_t, ilt_f, ieq_t, ieq_f, c_rmI, setF_at, setF_ne, setF_setF, true_and, up1_at, up1_ne, pk_sub, pk_cpy_in, pk_cpy_out, Nat.zero_add, Nat.add_zero, Nat.zero_mul, Nat.sub_zero, Nat.add_sub_cancel_left, c_gfR a1 s1, c_gfR a1 p1, c_chkO p2.ob, L3, L4, L5, L6]
      obtain ⟨N2, u0, u1, u2⟩ := s_minimize (J := J) p2 s2 (by omega) t2 b4 b3
      rw [u0, c_bnd]
      exact kx_store hK hI (by omega) (fun x hx => by rw [u1 x (by omega) (by omega)]; exact t1 x (by omega)) u2 ok hle rfl
  simp (disch := omega) only [c_bnd, c_chk, c_lb0, c_lb1, c_lb2, c_lb3, L0, L1, L2, L10007, nI_add, pk_mul, ile_t, ile_f, ilt_t, ilt_f, ieq_t, ieq_f, c_rmI, setF_at, setF_ne, setF_setF, true_and, up1_at, up1_ne, pk_sub, pk_cpy_in, pk_cpy_out, Nat.zero_add, Nat.add_zero, Nat.zero_mul, Nat.sub_zero, Nat.add_sub_cancel_left, c_gfR a1 a3, c_ldA a4 a5, c_chkO b1.ob]
  by_cases e9 : c = 2
  · rw [ieq_t e9, s_hasStar b1 b2 b4 b3, c_bnd]
    by_cases e10 : (tcur S q1).1 < 12 ∧ wtA (tcur S q1) (tcur S q1).2.1 = 0
    · rw [if_pos e10, if_pos (fun _ => e10), ieq_f (by omega) (by omega) (by omega)]
      exact key (fun _ => e10.1)
    · rw [if_neg e10, ieq_t rfl, if_neg (fun u => e10 (u e9))]
      exact kx_ko (by omega) rfl hK hI frA.refl frA.refl
  · rw [ieq_f e9 (by omega) (by omega), if_pos (fun u => absurd u e9)]
    exact key (fun u => absurd u e9)
theorem c_undo (hK : KI Γ N R o S) (hI : tI S) : KX Γ N R J o (fun k => k + 1) (f_X6_undo Γ o (cS N R J)) (rUndo S) := by
  obtain ⟨⟨a1, a2, a3, a4, _⟩, _⟩ := hK.slot hI (q := 0) (by omega)
  have h3 := hK.2.1.1
  have hm := hI.1.1
  unfold f_X6_undo rUndo
  rw [c_gfI a1, h3, L0]
  by_cases e : 0 < S.1.1
  · rw [if_pos e, ilt_t e (by omega)]
    obtain ⟨m, hm1⟩ : ∃ m, S.1.1 = m + 1 := ⟨S.1.1 - 1, by omega⟩
    obtain ⟨⟨_, _⟩, ⟨_, g2, g3⟩, ⟨_, r1, r2⟩, hsl, hsv, f, f1, f2⟩ := id hK.1.1
    obtain ⟨c1, c2⟩ := hK.2.1.2.2 m (by omega)
    obtain ⟨t1, t2⟩ := hI.1.2.2 m (by omega)
    obtain ⟨e1, e2⟩ := f1 m (by omega)
    obtain ⟨l1, l2⟩ := hsl _ t1
    have hv := hI.1.2.1 m _ (by omega) t1
    have hsv2 := hsv (f m) e1
    rw [hm1]
    generalize hq : S.1.2.2 m = q at *
    have e5 : R (o + 26) m ≠ 0 := by omega
    rw [e2] at c2
    simp (disch := omega) only [c_bnd, c_chk, c_lb0, c_lb1, c_lb2, c_lb3, L0, L1, L2, L10007, nI_add, pk_mul, ile_t, ile_f, ilt_t, ilt_f, ieq_t, ieq_f, c_rmI, setF_at, setF_ne, setF_setF, true_and, up1_at, up1_ne, pk_sub, pk_cpy_in, pk_cpy_out, Nat.zero_add, Nat.add_zero, Nat.zero_mul, Nat.sub_zero, Nat.add_sub_cancel_left, c_gfI a1, h3, hm1, Nat.add_sub_cancel, c_pfI a1, c_gfR a1 a3, c_gfR a1 r1, c_gfR a1 r2, c_ldI g3, c1, c_ldA a4 l1, c_ldA g2 e2, c_chkO l2.ob]
    have c2' : cAu (setF N o (up1 (N o) 3 m)) (o + 27 + 6 * f m) (S.1.2.1 m q) := c2.fr (frA.set (N := N) (a := o) (lo := o) (hi := o + 1) (by omega) (by omega)) (by omega)
    obtain ⟨N1, u0, u1, u2⟩ := s_copy (J := J) l2 hsv2 (by omega) c2' hv.2 hv.2
    rw [u0, c_bnd, c_gfI a1]
    have e6 : N1 o 3 = m := by rw [u1 o (by omega), setF_at, up1_at]
    rw [e6]
    have hm2 : (uS S).1.1 = m := by show S.1.1 - 1 = m; omega
    refine kx_ok rfl ⟨hK.1, ⟨?_, fun q' hq' => ?_, fun k hk => ?_⟩, ?_, fun i hi => ?_, fun k hk => ?_⟩ (uS_I hI) (fun x hx => by rw [u1 x (by omega), setF_ne (by omega)]) frA.refl
    · rw [e6, hm2]
    · rw [hm2]
      show cAu N1 _ (S.1.2.1 m q')
      by_cases e7 : q' = q
      · subst e7
        exact u2
      · rw [t2 q' hq' e7]
        have := hK.2.1.2.1 q' hq'
        rw [hm1] at this
        refine CAu_fr this (fun x h1 h2 => ?_)
        rw [u1 x (by omega), setF_ne (by omega)]
    · have hk' : k < m := by rw [hm2] at hk; exact hk
      obtain ⟨v1, v2⟩ := hK.2.1.2.2 k (by omega)
      obtain ⟨e8, e9⟩ := f1 k (by omega)
      rw [e9] at v2 ⊢
      refine ⟨by rw [u1 _ (by omega), setF_ne (by omega)]; exact v1, CAu_fr v2 (fun x h1 h2 => ?_)⟩
      rw [u1 x (by omega), setF_ne (by omega)]
    · rw [u1 _ (by omega), setF_ne (by omega)]; exact hK.2.2.1
    · rw [u1 _ (by omega), setF_ne (by omega)]; exact hK.2.2.2.1 i hi
    · rw [u1 _ (by omega), setF_ne (by omega)]; exact hK.2.2.2.2 k hk
  · rw [if_neg e, ilt_f (by omega) (by omega)]
    exact kx_ko (by omega) rfl hK hI frA.refl frA.refl
end CY
