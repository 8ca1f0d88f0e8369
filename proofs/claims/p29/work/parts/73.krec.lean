/-! ===== the class: recurrences, the slots changed ===== -/
noncomputable def dgS (S : tS) : Nat → Int64
  | 0 => 93589 + (nI S.2.1).toInt64
  | k + 1 => hD (tcur S k) (dgS S k) 3
section CW
variable {Γ : zSh} {N N' R R' : Mem} {J : Nat → Nat → Int64} {o q : Nat} {S : tS} {x y z l b v w t : Int32} {r1 : Rs} {cd : Nat → Nat} {A : Au}
theorem c_totals (hK : KI Γ N R o S) (hI : tI S) (hq : q < 4) {n : Nat} (hn : n ≤ 43) : MxR (f_X6_collectTotals Γ o (nI q) (nI n) (cS N R J)) (fun σ => ((), σ)) J (fun N' R' => KI Γ N' R' o S ∧ frA N N' (o + 52) (o + 247) ∧ (∀ x, x ≠ o + 64 → R' x = R x) ∧ ∀ k, k < n → N' (o + 246) k = wtA (tcur S q) (ttV (tcur S q) k)) := by
  obtain ⟨⟨a1, a2, a3, a4, a5⟩, b1, b2, b3, b4⟩ := hK.slot hI hq
  obtain ⟨w1, u, u', w2⟩ := hK.1.2.2.2.1
  unfold f_X6_collectTotals
  simp (disch := omega) only [c_bnd, c_chk, c_lb0, c_lb1, c_lb2, c_lb3, L0, L1, L2, L10007, nI_add, pk_mul, ile_t, ile_f, ilt_t, ilt_f, ieq_t, ieq_f, c_rmI, setF_at, setF_ne, setF_setF, true_and, up1_at, up1_ne, pk_sub, pk_cpy_in, pk_cpy_out, Nat.zero_add, Nat.add_zero, Nat.zero_mul, Nat.sub_zero, Nat.add_sub_cancel_left, c_gfR a1 a3, c_gfR a1 w1, c_ldA a4 a5, c_chkO w2.1]
  obtain ⟨N1, s0, s1, s2⟩ := k_start (J := J) w2 b1 (by omega) b2 b4 b4
  rw [s0, c_bnd]
  refine mr_lb0 (mr_for (J := J) (N := N1) (R := R) (fun k N' R' => frA N N' (o + 52) (o + 247) ∧ (∀ x, x ≠ o + 64 → R' x = R x) ∧ (∃ u u', wS Γ R' (o + 64) u u' ∧ ∀ j, j < (tcur S q).1 → N' u j = ttV (tcur S q) k j) ∧ ∀ k', k' < k → N' (o + 246) k' = wtA (tcur S q) (ttV (tcur S q) k')) (s := 0) (e := n) (by omega) (by omega) ⟨s1.mono (by omega) (by omega), fun x _ => rfl, ⟨u, u', w2, s2⟩, fun k' e => absurd e (by omega)⟩ ?_ ?_) ?_
  · intro k N2 R2 _ hk ⟨g1, g2, ⟨v1, v2, g3, g4⟩, g5⟩
    have hK2 : KI Γ N2 R2 o S := hK.walk hI g1 g2 ⟨_, _, g3⟩
    obtain ⟨⟨c1, c2, c3, c4, c5⟩, d1, d2, d3, d4⟩ := hK2.slot hI hq
    have w3 := hK2.1.2.2.2.1.1
    obtain ⟨t3, t4⟩ := hK2.1.2.2.2.2.2.2.2.1
    have hb : ∀ j, j < (tcur S q).1 → N2 v1 j < 10007 := fun j hj => by rw [g4 j hj]; exact ttV_lt d3 k j hj
    have hv1 : v1 ≠ o + 246 := by rcases g3.2.2.2.2.2.2 with ⟨e, _⟩ | ⟨e, _⟩ <;> omega
    show MxR (f_X6_collectTotals_B15 _ _ _ _ _ _) _ _ _
    unfold f_X6_collectTotals_B15
    simp (disch := omega) only [c_bnd, c_chk, c_lb0, c_lb1, c_lb2, c_lb3, L0, L1, L2, L10007, nI_add, pk_mul, ile_t, ile_f, ilt_t, ilt_f, ieq_t, ieq_f, c_rmI, setF_at, setF_ne, setF_setF, true_and, up1_at, up1_ne, pk_sub, pk_cpy_in, pk_cpy_out, Nat.zero_add, Nat.add_zero, Nat.zero_mul, Nat.sub_zero, Nat.add_sub_cancel_left, c_gfR c1 c3, c_gfR c1 w3, c_gfR c1 t3, c_ldA c4 c5, c_chkO g3.1]
    rw [k_value g3 d1 d2 d4 d4 d3 hb, c_bnd, wtA_congr g4]
    simp (disch := omega) only [c_bnd, c_chk, c_lb0, c_lb1, c_lb2, c_lb3, L0, L1, L2, L10007, nI_add, pk_mul, ile_t, ile_f, ilt_t, ilt_f, ieq_t, ieq_f, c_rmI, setF_at, setF_ne, setF_setF, true_and, up1_at, up1_ne, pk_sub, pk_cpy_in, pk_cpy_out, Nat.zero_add, Nat.add_zero, Nat.zero_mul, Nat.sub_zero, Nat.add_sub_cancel_left, c_stI t4, c_gfR c1 c3, c_gfR c1 w3, c_ldA c4 c5, c_chkO g3.1]
    have d2' := d2.fr (frA.set (N := N2) (a := o + 246) (lo := o + 246) (hi := o + 247) (g := up1 (N2 (o + 246)) k (wtA (tcur S q) (ttV (tcur S q) k))) (by omega) (by omega)) (by omega)
    refine mr_bnd (k_both g3 d1 (by omega) d2' d4 d4 d3 (fun j hj => by rw [setF_ne hv1]; exact hb j hj)) ?_
    intro N4 R4 ⟨t1, t2, t5, t6⟩
    refine mr_eq rfl ⟨(g1.trans (frA.set (by omega) (by omega))).trans (t1.mono (by omega) (by omega)), fun x hx => (t2 x hx).trans (g2 x hx), ⟨_, _, t5, fun j hj => (t6 j hj).trans ?_⟩, fun k' hk' => ?_⟩
    · rw [setF_ne hv1]
      exact stpB_congr g4
    · rw [t1 _ (by omega), setF_at]
      by_cases e : k' = k
      · subst e
        exact up1_at
      · rw [up1_ne e]
        exact g5 k' (by omega)
  · intro N2 R2 _
    show f_X6_collectTotals_B15 _ _ _ _ _ _ = _
    unfold f_X6_collectTotals_B15
    simp (disch := omega) only [c_bnd, c_chk, c_lb0, c_lb1, c_lb2, c_lb3, L0, L1, L2, L10007, nI_add, pk_mul, ile_t, ile_f, ilt_t, ilt_f, ieq_t, ieq_f, c_rmI, setF_at, setF_ne, setF_setF, true_and, up1_at, up1_ne, pk_sub, pk_cpy_in, pk_cpy_out, Nat.zero_add, Nat.add_zero, Nat.zero_mul, Nat.sub_zero, Nat.add_sub_cancel_left]
  · intro N2 R2 ⟨g1, g2, ⟨v1, v2, g3, g4⟩, g5⟩
    exact mr_eq rfl ⟨hK.walk hI g1 g2 ⟨_, _, g3⟩, g1, g2, g5⟩
theorem c_fill (hK : KI Γ N R o S) (hI : tI S) {d : Nat} (hd : d ≤ 12) {g : Nat → Nat} (hg : ∀ k, k < 31 + d → N (o + 246) k = g k) : Mx (f_X6_fillRecurrences Γ o (nI d) (cS N R J)) (fun σ => ((), σ)) R J (fun N' => frA N N' (o + 215) (o + 246) ∧ ∀ n k, n < 31 → k < d + 1 → N' (R (o + 214) n) k = g (n + k)) := by
  obtain ⟨⟨a1, a2, a3, a4, a5⟩, _⟩ := hK.slot hI (q := 0) (by omega)
  obtain ⟨g1, π, g2⟩ := hK.1.2.2.2.2.2.2.1
  obtain ⟨t3, t4⟩ := hK.1.2.2.2.2.2.2.2.1
  obtain ⟨⟨g3, _⟩, g4, g5, _⟩ := id g2
  unfold f_X6_fillRecurrences
  rw [L0]
  refine mx_lb0 (mx_for (fun n N' => frA N N' (o + 215) (o + 246) ∧ ∀ n' k, n' < n → k < d + 1 → N' (R (o + 214) n') k = g (n' + k)) (s := 0) (e := 31) (by omega) (by omega) ⟨frA.refl, fun n' k e => absurd e (by omega)⟩ ?_ ?_) ?_
  · intro n N1 _ hn ⟨r1, r2⟩
    obtain ⟨q1, q2, q3, q4⟩ := g2.row (k := n) hn
    show Mx (f_X6_fillRecurrences_B2 _ _ _ _ _) _ _ _ _
    unfold f_X6_fillRecurrences_B2
    simp (disch := omega) only [c_bnd, c_chk, c_lb0, c_lb1, c_lb2, c_lb3, L0, L1, L2, L10007, nI_add, pk_mul, ile_t, ile_f, ilt_t, ilt_f, ieq_t, ieq_f, c_rmI, setF_at, setF_ne, setF_setF, true_and, up1_at, up1_ne, pk_sub, pk_cpy_in, pk_cpy_out, Nat.zero_add, Nat.add_zero, Nat.zero_mul, Nat.sub_zero, Nat.add_sub_cancel_left, L31]
    refine mx_lb0 (mx_for (fun k N' => frA N N' (o + 215) (o + 246) ∧ ∀ n' k', n' < n ∨ n' = n ∧ k' < k → n' < 31 → k' < d + 1 → N' (R (o + 214) n') k' = g (n' + k')) (s := 0) (e := d + 1) (by omega) (by omega) ⟨r1, fun n' k' e _ hk => r2 n' k' (by omega) hk⟩ ?_ ?_) ?_
    · intro k N2 _ hk ⟨s1, s2⟩
      have e1 : N2 (o + 246) (n + k) = g (n + k) := by rw [s1 _ (by omega)]; exact hg _ (by omega)
      show Mx (f_X6_fillRecurrences_B10 _ _ _ _ _ _) _ _ _ _
      unfold f_X6_fillRecurrences_B10
      simp (disch := omega) only [c_bnd, c_chk, c_lb0, c_lb1, c_lb2, c_lb3, L0, L1, L2, L10007, nI_add, pk_mul, ile_t, ile_f, ilt_t, ilt_f, ieq_t, ieq_f, c_rmI, setF_at, setF_ne, setF_setF, true_and, up1_at, up1_ne, pk_sub, pk_cpy_in, pk_cpy_out, Nat.zero_add, Nat.add_zero, Nat.zero_mul, Nat.sub_zero, Nat.add_sub_cancel_left, c_gfR a1 g1, c_gfR g3 g5, c_gfR a1 t3, c_ldG g4 rfl q2, c_ldI t4, c_stI q1, e1]
      refine mx_eq rfl ⟨s1.trans (frA.set (by omega) (by omega)), fun n' k' c1 c2 c3 => ?_⟩
      by_cases e5 : n' = n
      · subst e5
        rw [setF_at]
        by_cases e6 : k' = k
        · subst e6
          exact up1_at
        · rw [up1_ne e6]
          exact s2 n' k' (by omega) c2 c3
      · rw [setF_ne (g2.inj c2 hn e5)]
        exact s2 n' k' (by omega) c2 c3
    · intro N2 _
      show f_X6_fillRecurrences_B10 _ _ _ _ _ _ = _
      unfold f_X6_fillRecurrences_B10
      simp (disch := omega) only [c_bnd, c_chk, c_lb0, c_lb1, c_lb2, c_lb3, L0, L1, L2, L10007, nI_add, pk_mul, ile_t, ile_f, ilt_t, ilt_f, ieq_t, ieq_f, c_rmI, setF_at, setF_ne, setF_setF, true_and, up1_at, up1_ne, pk_sub, pk_cpy_in, pk_cpy_out, Nat.zero_add, Nat.add_zero, Nat.zero_mul, Nat.sub_zero, Nat.add_sub_cancel_left]
    · intro N2 ⟨s1, s2⟩
      exact mx_eq rfl ⟨s1, fun n' k e c => s2 n' k (by omega) (by omega) c⟩
  · intro N1 _
    show f_X6_fillRecurrences_B2 _ _ _ _ _ = _
    unfold f_X6_fillRecurrences_B2
    simp (disch := omega) only [c_bnd, c_chk, c_lb0, c_lb1, c_lb2, c_lb3, L0, L1, L2, L10007, nI_add, pk_mul, ile_t, ile_f, ilt_t, ilt_f, ieq_t, ieq_f, c_rmI, setF_at, setF_ne, setF_setF, true_and, up1_at, up1_ne, pk_sub, pk_cpy_in, pk_cpy_out, Nat.zero_add, Nat.add_zero, Nat.zero_mul, Nat.sub_zero, Nat.add_sub_cancel_left, L31]
  · intro N1 ⟨r1, r2⟩
    exact mx_eq rfl ⟨r1, r2⟩
theorem c_recurs (hK : KI Γ N R o S) (hI : tI S) : KX Γ N R J o cdA (f_X6_recurs Γ o x w (cS N R J)) (rRecurs S x w) := by
  unfold f_X6_recurs rRecurs
  refine kx_slot rfl hK hI rfl (fun e => ?_)
  obtain ⟨e1, _, e2⟩ := ix_of e (by omega) (by omega)
  generalize ix x = q at *
  subst e1
  obtain ⟨⟨a1, a2, a3, a4, a5⟩, b1, b2, b3, b4⟩ := hK.slot hI (q := q) (by omega)
  refine kx_range rfl (by decide) (by decide) hK hI (by omega) rfl (fun e4 => ?_)
  obtain ⟨f3, f5, f4⟩ := ix_of e4 (by omega) (by omega)
  generalize ix w = d at *
  subst f3
  rw [c_chkO a1, L31, nI_add]
  obtain ⟨N1, R1, s0, k1, s1, s2, s3⟩ := c_totals (J := J) hK hI (q := q) (by omega) (n := 31 + d) (by omega)
  rw [s0, c_bnd, c_chkO a1]
  obtain ⟨N2, t0, t1, t2⟩ := c_fill (J := J) k1 hI (d := d) (by omega) (g := fun k => wtA (tcur S q) (ttV (tcur S q) k)) s3
  rw [t0, c_bnd]
  have k2 : KI Γ N2 R1 o S := k1.work hI (t1.mono (by omega) (by omega))
  obtain ⟨g1, π, g2⟩ := k2.1.2.2.2.2.2.2.1
  obtain ⟨N3, R3, u0, u1, u2, u3⟩ := c_rank (J := J) g2 (h := 31) (w := d) (by omega) (by omega) (G := rcG (tcur S q)) (fun k j hk hj => t2 k j hk (by omega)) (fun k j _ _ => wtA_lt)
  rw [c_gfR a1 g1 (by omega), c_chkO g2.1.1, u0, c_bnd, c_chkO a1]
  have k3 : KI Γ N3 R3 o S := k2.grid hI (u2.mono (by omega) (by omega)) u3 u1
  have q3 : ∀ k, k < 31 + d → N3 (o + 246) k = wtA (tcur S q) (ttV (tcur S q) k) := fun k hk => by rw [u2 _ (by omega), t1 _ (by omega)]; exact s3 k hk
  obtain ⟨N4, v0, v1, v2⟩ := c_fill (J := J) k3 hI (d := d) (by omega) (g := fun k => wtA (tcur S q) (ttV (tcur S q) k)) q3
  rw [v0, c_bnd]
  have k4 : KI Γ N4 R3 o S := k3.work hI (v1.mono (by omega) (by omega))
  obtain ⟨h1, π', h2⟩ := k4.1.2.2.2.2.2.2.1
  obtain ⟨N5, R5, w0, w1, w2, w3⟩ := c_rank (J := J) h2 (h := 31) (w := d + 1) (by omega) (by omega) (G := rcG (tcur S q)) (fun k j hk hj => v2 k j hk hj) (fun k j _ _ => wtA_lt)
  rw [c_gfR a1 h1 (by omega), c_chkO h2.1.1, L1, nI_add, w0, c_bnd]
  have k5 : KI Γ N5 R5 o S := k4.grid hI (w2.mono (by omega) (by omega)) w3 w1
  have fr : frA N N5 o (o + 373) := (s1.mono (by omega) (by omega)).trans ((t1.mono (by omega) (by omega)).trans ((u2.mono (by omega) (by omega)).trans ((v1.mono (by omega) (by omega)).trans (w2.mono (by omega) (by omega)))))
  have gr : frA R R5 o (o + 373) := fun x hx => by rw [w3 x (by omega), u3 x (by omega), s2 x (by omega)]
  have l1 := (rk_le (h := 31) (G := rcG (tcur S q)) d).1
  have l2 := (rk_le (h := 31) (G := rcG (tcur S q)) (d + 1)).1
  unfold f_X6_recurs_L62
  by_cases e9 : (rkS 31 (rcG (tcur S q)) (d + 1)).1 = (rkS 31 (rcG (tcur S q)) d).1
  · rw [if_pos e9, ieq_t e9]
    exact kx_ok rfl k5 hI fr gr
  · rw [if_neg e9, ieq_f e9 (by omega) (by omega)]
    exact kx_ok rfl k5 hI fr gr
theorem c_digest (hK : KI Γ N R o S) (hI : tI S) : ∃ N', f_X6_digest Γ o (cS N R J) = some (31 * dgS S 4 + (nI S.1.1).toInt64, cS N' R J) ∧ frA N N' (o + 52) (o + 247) := by
  obtain ⟨⟨a1, a2, a3, a4, _⟩, _⟩ := hK.slot hI (q := 0) (by omega)
  obtain ⟨x1, x2⟩ := hK.1.2.2.2.2.2.2.2.2
  unfold f_X6_digest
  rw [c_gfR a1 x1 (by omega), c_gfI x2.1.1, hK.2.2.1, L0, show 93589 + (nI S.2.1).toInt64 = dgS S 0 from rfl]
  obtain ⟨N3, t0, g1⟩ := mx_for1 (J := J) (R := R) (f := fun q' => f_X6_digest_B15 Γ o q'.1 q'.2.1 q'.2.2) (N := N) (dgS S) (fun k N' => frA N N' (o + 52) (o + 247)) (s := 0) (e := 4) (by omega) (by omega) frA.refl (by
    intro k N2 _ hk g1
    have hK2 : KI Γ N2 R o S := hK.work hI g1
    obtain ⟨⟨_, _, _, _, a5⟩, b1, b2, b3, b4⟩ := hK2.slot hI hk
    show Mx (f_X6_digest_B15 _ _ _ _ _) _ _ _ _
    unfold f_X6_digest_B15
    rw [L4, ile_f hk (by omega), c_gfR a1 a3 (by omega), c_ldA a4 a5 (by omega) hk (by omega), c_chkO b1.ob, s_hash b1 b2 b4, c_bnd, L0, show hM (tcur S k) (dgS S k) (2 * ((tcur S k).1 * (tcur S k).1)) = hD (tcur S k) (dgS S k) 0 from rfl]
    refine mx_lb1 (mx_for1 (fun c => hD (tcur S k) (dgS S k) c) (fun c N' => frA N N' (o + 52) (o + 247)) (s := 0) (e := 3) (by omega) (by omega) g1 ?_ ?_) ?_
    · intro c N4 _ hc r1
      have hK4 : KI Γ N4 R o S := hK.work hI r1
      show Mx (f_X6_digest_B34 _ _ _ _ _ _) _ _ _ _
      unfold f_X6_digest_B34
      rw [L2, ilt_f (by omega) (by omega), c_chkO a1]
      refine mx_bnd (c_space hK4 hI hk hc) ?_
      intro N5 s1
      rw [L1, nI_add]
      exact mx_eq rfl (r1.trans s1)
    · intro N4 _
      show f_X6_digest_B34 _ _ _ _ _ _ = _
      unfold f_X6_digest_B34
      rw [L2, ilt_t (by omega) (by omega)]
    · intro N4 r
      rw [L1, nI_add]
      exact mx_eq rfl r) (by
    intro N2 _
    show f_X6_digest_B15 _ _ _ _ _ = _
    unfold f_X6_digest_B15
    rw [L4, ile_t (by omega) (by omega)])
  rw [show (loopM (fun q' => f_X6_digest_B15 Γ o q'.1 q'.2.1 q'.2.2) FUEL (dgS S 0, nI 0, cS N R J)) = _ from t0, c_lb1, c_gfI a1]
  have e3 : N3 o 3 = S.1.1 := by rw [g1 o (by omega)]; exact hK.2.1.1
  rw [e3]
  exact ⟨N3, rfl, g1⟩
end CW
