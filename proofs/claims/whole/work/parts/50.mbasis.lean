/-! ===== the model's basis ===== -/
def mBs (N : Mem) (p w : Nat) (B : Bs) : Prop := N p 12 = B.1 ∧ ∀ k, k < B.1 → N (p + 9) k = B.2.1 k ∧ N (p + 8) k = B.2.2.1 k ∧ (∀ j, j < w → N (p + 5) (24 * k + j) = B.2.2.2.1 k j ∧ N (p + 6) (24 * k + j) = B.2.2.2.2.1 k j) ∧ ∀ j, j < 24 → N (p + 6) (24 * k + j) < 10007 ∧ N (p + 7) (24 * k + j) = B.2.2.2.2.2 k j
def frM (N N' : Mem) (p : Nat) : Prop := (∀ x, x ≠ p → x < p + 3 ∨ p + 12 ≤ x → N' x = N x) ∧ ∀ i, i ≠ 12 → N' p i = N p i
theorem frM.refl {N : Mem} {p : Nat} : frM N N p := ⟨fun _ _ _ => rfl, fun _ _ => rfl⟩
theorem frM.trans {N N1 N2 : Mem} {p : Nat} (h : frM N N1 p) (k : frM N1 N2 p) : frM N N2 p := ⟨fun x a b => (k.1 x a b).trans (h.1 x a b), fun i a => (k.2 i a).trans (h.2 i a)⟩
theorem frM.of {N N' : Mem} {p lo hi : Nat} (h : frA N N' lo hi) (h1 : p + 3 ≤ lo) (h2 : hi ≤ p + 12) : frM N N' p := ⟨fun x a b => h x (by omega), fun i a => by rw [h p (by omega)]⟩
theorem frM.pool {N N' : Mem} {p : Nat} (h : frM N N' p) : N' (p + 1) = N (p + 1) := h.1 (p + 1) (by omega) (by omega)
theorem mAu.eq {N N' : Mem} {p q : Nat} {A : Au} (h : mAu N p q A) (e : N' (p + 1) = N (p + 1)) : mAu N' p q A := by
  unfold mAu at h ⊢
  rw [e]
  exact h
theorem mBs.of {N N' : Mem} {p w : Nat} {B : Bs} (h : mBs N p w B) (e : N' p 12 = N p 12) (e2 : ∀ x, p + 5 ≤ x → x < p + 10 → N' x = N x) : mBs N' p w B := by
  unfold mBs at h ⊢
  rw [e, e2 (p + 5) (by omega) (by omega), e2 (p + 6) (by omega) (by omega), e2 (p + 7) (by omega) (by omega), e2 (p + 8) (by omega) (by omega), e2 (p + 9) (by omega) (by omega)]
  exact h
theorem neg_mul_mod {a s : Nat} (ha : a < 10007) (hs : s ≤ 10007) : (0 + 10007 - a) % 10007 * s % 10007 = a * (10007 - s) % 10007 := by
  rw [Nat.zero_add, Nat.mod_mul_mod]
  have h1 : (10007 - a) * s + a * s = 10007 * s := by
    rw [← Nat.add_mul, Nat.sub_add_cancel (by omega)]
  have h2 : a * (10007 - s) + a * s = 10007 * a := by
    rw [← Nat.mul_add, Nat.sub_add_cancel hs, Nat.mul_comm]
  generalize (10007 - a) * s = X at *
  generalize a * (10007 - s) = Y at *
  generalize a * s = Z at *
  omega
section MB2
variable {Γ : zSh} {N : Mem} {R : Mem} {J : Nat → Nat → Int64} {p q x w : Nat} {X : Au} {B : Bs} {v : Nat → Nat}
theorem m_reduces (h : mS Γ R p) (hw : w ≤ 24) (hI : bI w B) (hB : mBs N p w B) (hv : ∀ j, j < w → N (p + 3) j = v j) (hv2 : ∀ j, j < w → v j < 10007) : Mx (f_X7_reduces Γ p (nI w) (cS N R J)) (fun σ => (nI (if fnz (rd B v B.1).1 w = w then 0 else 1), σ)) R J (fun N' => frA N N' (p + 10) (p + 12) ∧ (∀ j, j < w → N' (p + 10) j = (rd B v B.1).1 j) ∧ (∀ j, j < 24 → N' (p + 10) j < 10007 ∧ N' (p + 11) j = (rd B v B.1).2 j)) := by
  have hle := bI_le hI
  unfold f_X7_reduces
  rw [L0]
  refine mx_lb0 (mx_for (fun c N' => frA N N' (p + 10) (p + 12) ∧ ∀ j, j < c → N' (p + 10) j = (if j < w then v j else 0) ∧ N' (p + 11) j = 0) (s := 0) (e := 24) (by omega) (by omega) ⟨frA.refl, fun j e => absurd e (by omega)⟩ ?_ ?_) ?_
  · intro c N1 _ hc ⟨r1, r2⟩
    show Mx (f_X7_reduces_B2 _ _ _ _ _) _ _ _ _
    unfold f_X7_reduces_B2
    by_cases e : c < w
    · have f1 : N1 (p + 3) c = v c := by rw [r1 _ (by omega)]; exact hv c e
      simp (disch := omega) only [c_bnd, c_chk, c_lb0, c_lb1, c_lb2, c_lb3, L0, L1, L2, L10007, nI_add, pk_mul, ile_t, ile_f, ilt_t, ilt_f, ieq_t, ieq_f, c_rmI, setF_at, setF_ne, setF_setF, true_and, up1_at, up1_ne, pk_sub, pk_cpy_in, pk_cpy_out, Nat.zero_add, Nat.add_zero, Nat.zero_mul, Nat.sub_zero, Nat.add_sub_cancel_left, c_gfR h.ob h.rleft, c_ldI h.gleft, c_stI h.gleft, c_gfR h.ob h.rrow, c_ldI h.grow, c_stI h.grow, L24, f1]
      unfold f_X7_reduces_B2_L28
      simp (disch := omega) only [c_bnd, c_chk, c_lb0, c_lb1, c_lb2, c_lb3, L0, L1, L2, L10007, nI_add, pk_mul, ile_t, ile_f, ilt_t, ilt_f, ieq_t, ieq_f, c_rmI, setF_at, setF_ne, setF_setF, true_and, up1_at, up1_ne, pk_sub, pk_cpy_in, pk_cpy_out, Nat.zero_add, Nat.add_zero, Nat.zero_mul, Nat.sub_zero, Nat.add_sub_cancel_left, c_gfR h.ob h.rleft, c_ldI h.gleft, c_stI h.gleft, c_gfR h.ob h.rparts, c_ldI h.gparts, c_stI h.gparts]
      refine mx_eq rfl ⟨r1.trans ((frA.set (by omega) (by omega)).trans (frA.set (by omega) (by omega))), fun j hj => ?_⟩
      by_cases e2 : j = c
      · subst e2
        simp (disch := omega) only [c_bnd, c_chk, c_lb0, c_lb1, c_lb2, c_lb3, L0, L1, L2, L10007, nI_add, pk_mul, ile_t, ile_f, ilt_t, ilt_f, ieq_t, ieq_f, c_rmI, setF_at, setF_ne, setF_setF, true_and, up1_at, up1_ne, pk_sub, pk_cpy_in, pk_cpy_out, Nat.zero_add, Nat.add_zero, Nat.zero_mul, Nat.sub_zero, Nat.add_sub_cancel_left, if_pos e, and_self]
      · simp (disch := omega) only [c_bnd, c_chk, c_lb0, c_lb1, c_lb2, c_lb3, L0, L1, L2, L10007, nI_add, pk_mul, ile_t, ile_f, ilt_t, ilt_f, ieq_t, ieq_f, c_rmI, setF_at, setF_ne, setF_setF, true_and, up1_at, up1_ne, pk_sub, pk_cpy_in, pk_cpy_out, Nat.zero_add, Nat.add_zero, Nat.zero_mul, Nat.sub_zero, Nat.add_sub_cancel_left]
        exact r2 j (by omega)
    · simp (disch := omega) only [c_bnd, c_chk, c_lb0, c_lb1, c_lb2, c_lb3, L0, L1, L2, L10007, nI_add, pk_mul, ile_t, ile_f, ilt_t, ilt_f, ieq_t, ieq_f, c_rmI, setF_at, setF_ne, setF_setF, true_and, up1_at, up1_ne, pk_sub, pk_cpy_in, pk_cpy_out, Nat.zero_add, Nat.add_zero, Nat.zero_mul, Nat.sub_zero, Nat.add_sub_cancel_left, c_gfR h.ob h.rleft, c_ldI h.gleft, c_stI h.gleft, L24]
      unfold f_X7_reduces_B2_L28
      simp (disch := omega) only [c_bnd, c_chk, c_lb0, c_lb1, c_lb2, c_lb3, L0, L1, L2, L10007, nI_add, pk_mul, ile_t, ile_f, ilt_t, ilt_f, ieq_t, ieq_f, c_rmI, setF_at, setF_ne, setF_setF, true_and, up1_at, up1_ne, pk_sub, pk_cpy_in, pk_cpy_out, Nat.zero_add, Nat.add_zero, Nat.zero_mul, Nat.sub_zero, Nat.add_sub_cancel_left, c_gfR h.ob h.rleft, c_ldI h.gleft, c_stI h.gleft, c_gfR h.ob h.rparts, c_ldI h.gparts, c_stI h.gparts]
      refine mx_eq rfl ⟨r1.trans ((frA.set (by omega) (by omega)).trans (frA.set (by omega) (by omega))), fun j hj => ?_⟩
      by_cases e2 : j = c
      · subst e2
        simp (disch := omega) only [c_bnd, c_chk, c_lb0, c_lb1, c_lb2, c_lb3, L0, L1, L2, L10007, nI_add, pk_mul, ile_t, ile_f, ilt_t, ilt_f, ieq_t, ieq_f, c_rmI, setF_at, setF_ne, setF_setF, true_and, up1_at, up1_ne, pk_sub, pk_cpy_in, pk_cpy_out, Nat.zero_add, Nat.add_zero, Nat.zero_mul, Nat.sub_zero, Nat.add_sub_cancel_left, if_neg e, and_self]
      · simp (disch := omega) only [c_bnd, c_chk, c_lb0, c_lb1, c_lb2, c_lb3, L0, L1, L2, L10007, nI_add, pk_mul, ile_t, ile_f, ilt_t, ilt_f, ieq_t, ieq_f, c_rmI, setF_at, setF_ne, setF_setF, true_and, up1_at, up1_ne, pk_sub, pk_cpy_in, pk_cpy_out, Nat.zero_add, Nat.add_zero, Nat.zero_mul, Nat.sub_zero, Nat.add_sub_cancel_left]
        exact r2 j (by omega)
  · intro N1 _
    show f_X7_reduces_B2 _ _ _ _ _ = _
    unfold f_X7_reduces_B2
    simp (disch := omega) only [c_bnd, c_chk, c_lb0, c_lb1, c_lb2, c_lb3, L0, L1, L2, L10007, nI_add, pk_mul, ile_t, ile_f, ilt_t, ilt_f, ieq_t, ieq_f, c_rmI, setF_at, setF_ne, setF_setF, true_and, up1_at, up1_ne, pk_sub, pk_cpy_in, pk_cpy_out, Nat.zero_add, Nat.add_zero, Nat.zero_mul, Nat.sub_zero, Nat.add_sub_cancel_left, L24]
  intro N1 ⟨r1, r2⟩
  have hl := fun c hc => rd_lt hI hv2 (v := v) c hc
  refine mx_lb0 (mx_for (fun c N' => frA N N' (p + 10) (p + 12) ∧ (∀ j, j < w → N' (p + 10) j = (rd B v c).1 j) ∧ ∀ j, j < 24 → N' (p + 10) j < 10007 ∧ N' (p + 11) j = (rd B v c).2 j) (s := 0) (e := B.1) (by omega) (by omega) ⟨r1, fun j hj => by rw [(r2 j (by omega)).1, if_pos hj]; rfl, fun j hj => ?_⟩ ?_ ?_) ?_
  · rw [(r2 j hj).1, (r2 j hj).2]
    refine ⟨?_, rfl⟩
    by_cases e : j < w
    · rw [if_pos e]; exact hv2 j e
    · rw [if_neg e]; omega
  · intro c N2 _ hcc ⟨s1, s2, s3⟩
    have f0 : N2 p 12 = B.1 := by rw [s1 p (by omega)]; exact hB.1
    obtain ⟨_, k2, k3, k4⟩ := hB.2 c hcc
    have f1 : N2 (p + 8) c = B.2.2.1 c := by rw [s1 _ (by omega)]; exact k2
    have hp := (hI.1 c hcc).1
    have f2 := s2 _ hp
    have hx := (hl c (by omega)).1 _ hp
    show Mx (f_X7_reduces_B44 _ _ _ _ _) _ _ _ _
    unfold f_X7_reduces_B44
    simp (disch := omega) only [c_bnd, c_chk, c_lb0, c_lb1, c_lb2, c_lb3, L0, L1, L2, L10007, nI_add, pk_mul, ile_t, ile_f, ilt_t, ilt_f, ieq_t, ieq_f, c_rmI, setF_at, setF_ne, setF_setF, true_and, up1_at, up1_ne, pk_sub, pk_cpy_in, pk_cpy_out, Nat.zero_add, Nat.add_zero, Nat.zero_mul, Nat.sub_zero, Nat.add_sub_cancel_left, c_gfI h.ob, c_pfI h.ob, c_chkO h.ob, c_gfR h.ob h.rpool, c_ldI h.gpool, c_stI h.gpool, m_iAt, m_fAt, m_at, m_many h, L12, L13, L25, L144, L313, c_gfR h.ob h.rleft, c_ldI h.gleft, c_stI h.gleft, c_gfR h.ob h.rleads, c_ldI h.gleads, c_stI h.gleads, f0, f1, f2]
    by_cases e : (rd B v c).1 (B.2.2.1 c) = 0
    · have hn : rd B v (c + 1) = rd B v c := by rw [rd, if_pos e]
      rw [e, lb0_of (loop_for (fun k => (nI k, cS N2 R J)) (cS N2 R J) 0 rfl (by unfold FUEL; omega) (fun i hi => absurd hi (by omega)) ?_)]
      · refine mx_eq rfl ⟨s1, ?_⟩
        rw [hn]
        exact ⟨s2, s3⟩
      · show f_X7_reduces_B67 _ _ _ _ _ _ _ = _
        unfold f_X7_reduces_B67
        simp (disch := omega) only [c_bnd, c_chk, c_lb0, c_lb1, c_lb2, c_lb3, L0, L1, L2, L10007, nI_add, pk_mul, ile_t, ile_f, ilt_t, ilt_f, ieq_t, ieq_f, c_rmI, setF_at, setF_ne, setF_setF, true_and, up1_at, up1_ne, pk_sub, pk_cpy_in, pk_cpy_out, Nat.zero_add, Nat.add_zero, Nat.zero_mul, Nat.sub_zero, Nat.add_sub_cancel_left, L24]
    · have hn : rd B v (c + 1) = (fun j => ((rd B v c).1 j + (10007 - (rd B v c).1 (B.2.2.1 c)) * B.2.2.2.2.1 c j) % 10007, fun j => ((rd B v c).2 j + (rd B v c).1 (B.2.2.1 c) * B.2.2.2.2.2 c j) % 10007) := by rw [rd, if_neg e]
      refine mx_lb0 (mx_for (fun d N' => frA N N' (p + 10) (p + 12) ∧ (∀ j, j < w → N' (p + 10) j = if j < d then (rd B v (c + 1)).1 j else (rd B v c).1 j) ∧ ∀ j, j < 24 → N' (p + 10) j < 10007 ∧ N' (p + 11) j = if j < d then (rd B v (c + 1)).2 j else (rd B v c).2 j) (s := 0) (e := 24) (by omega) (by omega) ⟨s1, fun j hj => by rw [if_neg (by omega)]; exact s2 j hj, fun j hj => by rw [if_neg (by omega)]; exact s3 j hj⟩ ?_ ?_) ?_
      · intro d N3 _ hd ⟨t1, t2, t3⟩
        have g1 : N3 (p + 6) = N (p + 6) := t1 _ (by omega)
        have g2 : N3 (p + 7) = N (p + 7) := t1 _ (by omega)
        have g3 := (k4 d hd).1
        have g4 := (k4 d hd).2
        have g5 := (t3 d hd).1
        have g6 := (t3 d hd).2
        rw [if_neg (Nat.lt_irrefl d)] at g6
        have g7 := ((hl c (by omega)).2 d).1
        have g8 := (hI.2.2 c d hcc).2.1
        have m1 : (10007 - (rd B v c).1 (B.2.2.1 c)) * N (p + 6) (24 * c + d) ≤ 10007 * 10006 := Nat.mul_le_mul (Nat.sub_le _ _) (Nat.le_of_lt_succ g3)
        have m2 := pmul hx g8
        show Mx (f_X7_reduces_B67 _ _ _ _ _ _ _) _ _ _ _
        unfold f_X7_reduces_B67
        simp (disch := omega) only [c_bnd, c_chk, c_lb0, c_lb1, c_lb2, c_lb3, L0, L1, L2, L10007, nI_add, pk_mul, ile_t, ile_f, ilt_t, ilt_f, ieq_t, ieq_f, c_rmI, setF_at, setF_ne, setF_setF, true_and, up1_at, up1_ne, pk_sub, pk_cpy_in, pk_cpy_out, Nat.zero_add, Nat.add_zero, Nat.zero_mul, Nat.sub_zero, Nat.add_sub_cancel_left, c_gfR h.ob h.rleft, c_ldI h.gleft, c_stI h.gleft, c_gfR h.ob h.rparts, c_ldI h.gparts, c_stI h.gparts, c_gfR h.ob h.rlead, c_ldI h.glead, c_stI h.glead, c_gfR h.ob h.rmade, c_ldI h.gmade, c_stI h.gmade, L24, g1, g2, g4, g6]
        refine mx_eq rfl ⟨t1.trans ((frA.set (by omega) (by omega)).trans (frA.set (by omega) (by omega))), fun j hj => ?_, fun j hj => ?_⟩
        · by_cases e2 : j = d
          · subst e2
            have g9 := t2 j hj
            rw [if_neg (Nat.lt_irrefl j)] at g9
            simp (disch := omega) only [c_bnd, c_chk, c_lb0, c_lb1, c_lb2, c_lb3, L0, L1, L2, L10007, nI_add, pk_mul, ile_t, ile_f, ilt_t, ilt_f, ieq_t, ieq_f, c_rmI, setF_at, setF_ne, setF_setF, true_and, up1_at, up1_ne, pk_sub, pk_cpy_in, pk_cpy_out, Nat.zero_add, Nat.add_zero, Nat.zero_mul, Nat.sub_zero, Nat.add_sub_cancel_left, g9, (k3 j hj).2]
            rw [if_pos (by omega), hn]
          · simp (disch := omega) only [c_bnd, c_chk, c_lb0, c_lb1, c_lb2, c_lb3, L0, L1, L2, L10007, nI_add, pk_mul, ile_t, ile_f, ilt_t, ilt_f, ieq_t, ieq_f, c_rmI, setF_at, setF_ne, setF_setF, true_and, up1_at, up1_ne, pk_sub, pk_cpy_in, pk_cpy_out, Nat.zero_add, Nat.add_zero, Nat.zero_mul, Nat.sub_zero, Nat.add_sub_cancel_left]
            rw [t2 j hj]
            by_cases e3 : j < d
            · rw [if_pos e3, if_pos (by omega)]
            · rw [if_neg e3, if_neg (by omega)]
        · by_cases e2 : j = d
          · subst e2
            simp (disch := omega) only [c_bnd, c_chk, c_lb0, c_lb1, c_lb2, c_lb3, L0, L1, L2, L10007, nI_add, pk_mul, ile_t, ile_f, ilt_t, ilt_f, ieq_t, ieq_f, c_rmI, setF_at, setF_ne, setF_setF, true_and, up1_at, up1_ne, pk_sub, pk_cpy_in, pk_cpy_out, Nat.zero_add, Nat.add_zero, Nat.zero_mul, Nat.sub_zero, Nat.add_sub_cancel_left]
            rw [if_pos (by omega), hn]
            exact ⟨mlt _, rfl⟩
          · simp (disch := omega) only [c_bnd, c_chk, c_lb0, c_lb1, c_lb2, c_lb3, L0, L1, L2, L10007, nI_add, pk_mul, ile_t, ile_f, ilt_t, ilt_f, ieq_t, ieq_f, c_rmI, setF_at, setF_ne, setF_setF, true_and, up1_at, up1_ne, pk_sub, pk_cpy_in, pk_cpy_out, Nat.zero_add, Nat.add_zero, Nat.zero_mul, Nat.sub_zero, Nat.add_sub_cancel_left]
            rw [(t3 j hj).2]
            refine ⟨(t3 j hj).1, ?_⟩
            by_cases e3 : j < d
            · rw [if_pos e3, if_pos (by omega)]
            · rw [if_neg e3, if_neg (by omega)]
      · intro N3 _
        show f_X7_reduces_B67 _ _ _ _ _ _ _ = _
        unfold f_X7_reduces_B67
        simp (disch := omega) only [c_bnd, c_chk, c_lb0, c_lb1, c_lb2, c_lb3, L0, L1, L2, L10007, nI_add, pk_mul, ile_t, ile_f, ilt_t, ilt_f, ieq_t, ieq_f, c_rmI, setF_at, setF_ne, setF_setF, true_and, up1_at, up1_ne, pk_sub, pk_cpy_in, pk_cpy_out, Nat.zero_add, Nat.add_zero, Nat.zero_mul, Nat.sub_zero, Nat.add_sub_cancel_left, L24]
      · intro N3 ⟨t1, t2, t3⟩
        exact mx_eq rfl ⟨t1, fun j hj => by rw [t2 j hj, if_pos (by omega)], fun j hj => by rw [(t3 j hj).2, if_pos hj]; exact ⟨(t3 j hj).1, rfl⟩⟩
  · intro N2 ⟨s1, s2, s3⟩
    have f0 : N2 p 12 = B.1 := by rw [s1 p (by omega)]; exact hB.1
    show f_X7_reduces_B44 _ _ _ _ _ = _
    unfold f_X7_reduces_B44
    simp (disch := omega) only [c_bnd, c_chk, c_lb0, c_lb1, c_lb2, c_lb3, L0, L1, L2, L10007, nI_add, pk_mul, ile_t, ile_f, ilt_t, ilt_f, ieq_t, ieq_f, c_rmI, setF_at, setF_ne, setF_setF, true_and, up1_at, up1_ne, pk_sub, pk_cpy_in, pk_cpy_out, Nat.zero_add, Nat.add_zero, Nat.zero_mul, Nat.sub_zero, Nat.add_sub_cancel_left, c_gfI h.ob, c_pfI h.ob, c_chkO h.ob, c_gfR h.ob h.rpool, c_ldI h.gpool, c_stI h.gpool, m_iAt, m_fAt, m_at, m_many h, L12, L13, L25, L144, L313, f0]
  intro N2 ⟨s1, s2, s3⟩
  rw [lb1_of (loop_for (fun k => (nI (if fnz (rd B v B.1).1 k = k then 0 else 1), nI k, cS N2 R J)) (nI (if fnz (rd B v B.1).1 w = w then 0 else 1), cS N2 R J) w ?_ (by unfold FUEL; omega) ?_ ?_)]
  · have hb : isB (nI (if fnz (rd B v B.1).1 w = w then 0 else 1)) = true := by
      by_cases e : fnz (rd B v B.1).1 w = w
      · rw [if_pos e]; rfl
      · rw [if_neg e]; rfl
    rw [hb, c_chk]
    exact mx_eq rfl ⟨s1, s2, s3⟩
  · rfl
  · intro k hk
    have n3 := fnz_le (f := (rd B v B.1).1) k
    have f1 := s2 k hk
    have hx := (hl B.1 (Nat.le_refl _)).1 k hk
    have hf : fnz (rd B v B.1).1 (k + 1) = if fnz (rd B v B.1).1 k < k then fnz (rd B v B.1).1 k else if (rd B v B.1).1 k = 0 then k + 1 else k := rfl
    show f_X7_reduces_B164 _ _ _ _ _ _ = _
    unfold f_X7_reduces_B164
    by_cases e : fnz (rd B v B.1).1 k = k
    · rw [if_pos e]
      rw [if_neg (by omega)] at hf
      by_cases e2 : (rd B v B.1).1 k = 0
      · rw [if_pos e2] at hf
        rw [hf, if_pos rfl]
        simp (disch := omega) only [c_bnd, c_chk, c_lb0, c_lb1, c_lb2, c_lb3, L0, L1, L2, L10007, nI_add, pk_mul, ile_t, ile_f, ilt_t, ilt_f, ieq_t, ieq_f, c_rmI, setF_at, setF_ne, setF_setF, true_and, up1_at, up1_ne, pk_sub, pk_cpy_in, pk_cpy_out, Nat.zero_add, Nat.add_zero, Nat.zero_mul, Nat.sub_zero, Nat.add_sub_cancel_left, c_gfR h.ob h.rleft, c_ldI h.gleft, c_stI h.gleft, f1, e2, if_true]
        unfold f_X7_reduces_B164_L187
        simp (disch := omega) only [c_bnd, c_chk, c_lb0, c_lb1, c_lb2, c_lb3, L0, L1, L2, L10007, nI_add, pk_mul, ile_t, ile_f, ilt_t, ilt_f, ieq_t, ieq_f, c_rmI, setF_at, setF_ne, setF_setF, true_and, up1_at, up1_ne, pk_sub, pk_cpy_in, pk_cpy_out, Nat.zero_add, Nat.add_zero, Nat.zero_mul, Nat.sub_zero, Nat.add_sub_cancel_left]
      · rw [if_neg e2] at hf
        rw [hf, if_neg (show ¬ k = k + 1 by omega)]
        simp (disch := omega) only [c_bnd, c_chk, c_lb0, c_lb1, c_lb2, c_lb3, L0, L1, L2, L10007, nI_add, pk_mul, ile_t, ile_f, ilt_t, ilt_f, ieq_t, ieq_f, c_rmI, setF_at, setF_ne, setF_setF, true_and, up1_at, up1_ne, pk_sub, pk_cpy_in, pk_cpy_out, Nat.zero_add, Nat.add_zero, Nat.zero_mul, Nat.sub_zero, Nat.add_sub_cancel_left, c_gfR h.ob h.rleft, c_ldI h.gleft, c_stI h.gleft, f1, if_true]
        unfold f_X7_reduces_B164_L182 f_X7_reduces_B164_L187
        simp (disch := omega) only [c_bnd, c_chk, c_lb0, c_lb1, c_lb2, c_lb3, L0, L1, L2, L10007, nI_add, pk_mul, ile_t, ile_f, ilt_t, ilt_f, ieq_t, ieq_f, c_rmI, setF_at, setF_ne, setF_setF, true_and, up1_at, up1_ne, pk_sub, pk_cpy_in, pk_cpy_out, Nat.zero_add, Nat.add_zero, Nat.zero_mul, Nat.sub_zero, Nat.add_sub_cancel_left]
    · rw [if_neg e]
      rw [if_pos (by omega)] at hf
      rw [hf, if_neg (show ¬ fnz (rd B v B.1).1 k = k + 1 by omega)]
      simp (disch := omega) only [c_bnd, c_chk, c_lb0, c_lb1, c_lb2, c_lb3, L0, L1, L2, L10007, nI_add, pk_mul, ile_t, ile_f, ilt_t, ilt_f, ieq_t, ieq_f, c_rmI, setF_at, setF_ne, setF_setF, true_and, up1_at, up1_ne, pk_sub, pk_cpy_in, pk_cpy_out, Nat.zero_add, Nat.add_zero, Nat.zero_mul, Nat.sub_zero, Nat.add_sub_cancel_left]
      unfold f_X7_reduces_B164_L182 f_X7_reduces_B164_L187
      simp (disch := omega) only [c_bnd, c_chk, c_lb0, c_lb1, c_lb2, c_lb3, L0, L1, L2, L10007, nI_add, pk_mul, ile_t, ile_f, ilt_t, ilt_f, ieq_t, ieq_f, c_rmI, setF_at, setF_ne, setF_setF, true_and, up1_at, up1_ne, pk_sub, pk_cpy_in, pk_cpy_out, Nat.zero_add, Nat.add_zero, Nat.zero_mul, Nat.sub_zero, Nat.add_sub_cancel_left]
  · show f_X7_reduces_B164 _ _ _ _ _ _ = _
    unfold f_X7_reduces_B164
    simp (disch := omega) only [c_bnd, c_chk, c_lb0, c_lb1, c_lb2, c_lb3, L0, L1, L2, L10007, nI_add, pk_mul, ile_t, ile_f, ilt_t, ilt_f, ieq_t, ieq_f, c_rmI, setF_at, setF_ne, setF_setF, true_and, up1_at, up1_ne, pk_sub, pk_cpy_in, pk_cpy_out, Nat.zero_add, Nat.add_zero, Nat.zero_mul, Nat.sub_zero, Nat.add_sub_cancel_left]
theorem m_offers (h : mS Γ R p) (hw : w ≤ 24) (hI : bI w B) (hB : mBs N p w B) (hv : ∀ j, j < w → N (p + 3) j = v j) (hv2 : ∀ j, j < w → v j < 10007) {word : Nat} : Mx (f_X7_offers Γ p (nI w) (nI word) (cS N R J)) (fun σ => ((), σ)) R J (fun N' => frM N N' p ∧ mBs N' p w (plc w B v word)) := by
  have hle := bI_le hI
  have hl := rd_lt hI hv2 B.1 (Nat.le_refl _)
  have n3 := fnz_le (f := (rd B v B.1).1) w
  obtain ⟨n1, n2⟩ := fnz_spec (f := (rd B v B.1).1) w
  unfold f_X7_offers
  rw [c_chkO h.ob]
  refine mx_bnd (m_reduces h hw hI hB hv hv2) ?_
  intro N1 ⟨r1, r2, r3⟩
  have hfr : frM N N1 p := frM.of r1 (by omega) (by omega)
  have hB1 : mBs N1 p w B := hB.of (by rw [r1 p (by omega)]) (fun x a b => r1 x (by omega))
  by_cases e : fnz (rd B v B.1).1 w = w
  · have p1 : plc w B v word = B := by unfold plc; rw [if_pos e]
    rw [if_pos e, if_pos (show nI 0 = (0 : Int32) from rfl), p1]
    exact mx_eq rfl ⟨hfr, hB1⟩
  · have p1 : plc w B v word = (B.1 + 1, up B.2.1 B.1 word, up B.2.2.1 B.1 (fnz (rd B v B.1).1 w), up B.2.2.2.1 B.1 v, up B.2.2.2.2.1 B.1 (fun j => (rd B v B.1).1 j * rcp ((rd B v B.1).1 (fnz (rd B v B.1).1 w)) % 10007), up B.2.2.2.2.2 B.1 (fun j => if j = B.1 then rcp ((rd B v B.1).1 (fnz (rd B v B.1).1 w)) else (rd B v B.1).2 j * (10007 - rcp ((rd B v B.1).1 (fnz (rd B v B.1).1 w))) % 10007)) := by unfold plc; rw [if_neg e]
    have hc1 : B.1 < w := by
      have := bI_le (plc_I hI hv2 (word := word))
      rw [p1] at this
      exact this
    rw [if_neg e, p1, if_neg (show ¬ nI 1 = (0 : Int32) from by decide)]
    generalize fnz (rd B v B.1).1 w = i at *
    have hi2 : i < w := by omega
    have g1 := r2 i hi2
    have hx2 := hl.1 i hi2
    have f0 := hB1.1
    simp (disch := omega) only [c_bnd, c_chk, c_lb0, c_lb1, c_lb2, c_lb3, L0, L1, L2, L10007, nI_add, pk_mul, ile_t, ile_f, ilt_t, ilt_f, ieq_t, ieq_f, c_rmI, setF_at, setF_ne, setF_setF, true_and, up1_at, up1_ne, pk_sub, pk_cpy_in, pk_cpy_out, Nat.zero_add, Nat.add_zero, Nat.zero_mul, Nat.sub_zero, Nat.add_sub_cancel_left, c_gfI h.ob, c_pfI h.ob, c_chkO h.ob, c_gfR h.ob h.rpool, c_ldI h.gpool, c_stI h.gpool, m_iAt, m_fAt, m_at, m_many h, L12, L13, L25, L144, L313, f0]
    rw [lb1_of (loop_for (fun k => (nI k, cS N1 R J)) (nI i, cS N1 R J) i rfl (by unfold FUEL; omega) ?_ ?_)]
    rotate_left
    · intro k hk
      have := r2 k (by omega)
      rw [n1 k hk] at this
      show f_X7_offers_B17 _ _ _ _ _ _ _ = _
      unfold f_X7_offers_B17
      simp (disch := omega) only [c_bnd, c_chk, c_lb0, c_lb1, c_lb2, c_lb3, L0, L1, L2, L10007, nI_add, pk_mul, ile_t, ile_f, ilt_t, ilt_f, ieq_t, ieq_f, c_rmI, setF_at, setF_ne, setF_setF, true_and, up1_at, up1_ne, pk_sub, pk_cpy_in, pk_cpy_out, Nat.zero_add, Nat.add_zero, Nat.zero_mul, Nat.sub_zero, Nat.add_sub_cancel_left, c_gfR h.ob h.rleft, c_ldI h.gleft, c_stI h.gleft, this, if_true]
    · have := n2 hi2
      show f_X7_offers_B17 _ _ _ _ _ _ _ = _
      unfold f_X7_offers_B17
      simp (disch := omega) only [c_bnd, c_chk, c_lb0, c_lb1, c_lb2, c_lb3, L0, L1, L2, L10007, nI_add, pk_mul, ile_t, ile_f, ilt_t, ilt_f, ieq_t, ieq_f, c_rmI, setF_at, setF_ne, setF_setF, true_and, up1_at, up1_ne, pk_sub, pk_cpy_in, pk_cpy_out, Nat.zero_add, Nat.add_zero, Nat.zero_mul, Nat.sub_zero, Nat.add_sub_cancel_left, c_gfR h.ob h.rleft, c_ldI h.gleft, c_stI h.gleft, g1]
    simp (disch := omega) only [c_bnd, c_chk, c_lb0, c_lb1, c_lb2, c_lb3, L0, L1, L2, L10007, nI_add, pk_mul, ile_t, ile_f, ilt_t, ilt_f, ieq_t, ieq_f, c_rmI, setF_at, setF_ne, setF_setF, true_and, up1_at, up1_ne, pk_sub, pk_cpy_in, pk_cpy_out, Nat.zero_add, Nat.add_zero, Nat.zero_mul, Nat.sub_zero, Nat.add_sub_cancel_left, c_gfI h.ob, c_pfI h.ob, c_chkO h.ob, c_gfR h.ob h.rpool, c_ldI h.gpool, c_stI h.gpool, m_iAt, m_fAt, m_at, m_many h, L12, L13, L25, L144, L313, c_gfR h.ob h.rleft, c_ldI h.gleft, c_stI h.gleft, g1, m_rcp hx2]
    generalize hs : rcp ((rd B v B.1).1 i) = s at *
    have hs2 : s < 10007 := by rw [← hs]; exact rcp_lt
    refine mx_lb0 (mx_for (fun c N' => frA N1 N' (p + 5) (p + 8) ∧ (∀ z, z < 24 * B.1 ∨ 24 * B.1 + c ≤ z → N' (p + 5) z = N1 (p + 5) z ∧ N' (p + 6) z = N1 (p + 6) z ∧ N' (p + 7) z = N1 (p + 7) z) ∧ ∀ j, j < c → (j < w → N' (p + 5) (24 * B.1 + j) = v j ∧ N' (p + 6) (24 * B.1 + j) = (rd B v B.1).1 j * s % 10007) ∧ N' (p + 6) (24 * B.1 + j) < 10007 ∧ N' (p + 7) (24 * B.1 + j) = if j = B.1 then s else (rd B v B.1).2 j * (10007 - s) % 10007) (s := 0) (e := 24) (by omega) (by omega) ⟨frA.refl, fun z _ => ⟨rfl, rfl, rfl⟩, fun j e => absurd e (by omega)⟩ ?_ ?_) ?_
    · intro c N2 _ hc ⟨t1, t2, t3⟩
      have g2 : N2 (p + 10) = N1 (p + 10) := t1 _ (by omega)
      have g3 : N2 (p + 11) = N1 (p + 11) := t1 _ (by omega)
      have g4 : N2 (p + 3) = N (p + 3) := by rw [t1 _ (by omega), r1 _ (by omega)]
      obtain ⟨g5, g6⟩ := r3 c hc
      have g7 := (hl.2 c).1
      have m1 := pmul g5 hs2
      have hmade : ((if c = B.1 then 1 else 0) + 10007 - (rd B v B.1).2 c) % 10007 * s % 10007 = if c = B.1 then s else (rd B v B.1).2 c * (10007 - s) % 10007 := by
        by_cases e2 : c = B.1
        · rw [if_pos e2, if_pos e2, (hl.2 c).2 (by omega), show (1 + 10007 - 0) % 10007 = 1 from rfl, Nat.one_mul, Nat.mod_eq_of_lt hs2]
        · rw [if_neg e2, if_neg e2, neg_mul_mod g7 (by omega)]
      have m2 : ∀ u, (u + 10007 - (rd B v B.1).2 c) % 10007 * s ≤ 100120036 := fun u => pmul (mlt _) hs2
      have fin : ∀ y, (c < w → y = v c) → ∀ N3, N3 = setF (setF (setF N2 (p + 5) (up1 (N2 (p + 5)) (24 * B.1 + c) y)) (p + 6) (up1 (N2 (p + 6)) (24 * B.1 + c) (N1 (p + 10) c * s % 10007))) (p + 7) (up1 (N2 (p + 7)) (24 * B.1 + c) (if c = B.1 then s else (rd B v B.1).2 c * (10007 - s) % 10007)) → frA N1 N3 (p + 5) (p + 8) ∧ (∀ z, z < 24 * B.1 ∨ 24 * B.1 + (c + 1) ≤ z → N3 (p + 5) z = N1 (p + 5) z ∧ N3 (p + 6) z = N1 (p + 6) z ∧ N3 (p + 7) z = N1 (p + 7) z) ∧ ∀ j, j < c + 1 → (j < w → N3 (p + 5) (24 * B.1 + j) = v j ∧ N3 (p + 6) (24 * B.1 + j) = (rd B v B.1).1 j * s % 10007) ∧ N3 (p + 6) (24 * B.1 + j) < 10007 ∧ N3 (p + 7) (24 * B.1 + j) = if j = B.1 then s else (rd B v B.1).2 j * (10007 - s) % 10007 := by
        intro y hy N3 e3
        subst e3
        refine ⟨t1.trans (((frA.set (by omega) (by omega)).trans (frA.set (by omega) (by omega))).trans (frA.set (by omega) (by omega))), fun z hz => ?_, fun j hj => ?_⟩
        · simp (disch := omega) only [c_bnd, c_chk, c_lb0, c_lb1, c_lb2, c_lb3, L0, L1, L2, L10007, nI_add, pk_mul, ile_t, ile_f, ilt_t, ilt_f, ieq_t, ieq_f, c_rmI, setF_at, setF_ne, setF_setF, true_and, up1_at, up1_ne, pk_sub, pk_cpy_in, pk_cpy_out, Nat.zero_add, Nat.add_zero, Nat.zero_mul, Nat.sub_zero, Nat.add_sub_cancel_left]
          exact t2 z (by omega)
        · by_cases e4 : j = c
          · subst e4
            simp (disch := omega) only [c_bnd, c_chk, c_lb0, c_lb1, c_lb2, c_lb3, L0, L1, L2, L10007, nI_add, pk_mul, ile_t, ile_f, ilt_t, ilt_f, ieq_t, ieq_f, c_rmI, setF_at, setF_ne, setF_setF, true_and, up1_at, up1_ne, pk_sub, pk_cpy_in, pk_cpy_out, Nat.zero_add, Nat.add_zero, Nat.zero_mul, Nat.sub_zero, Nat.add_sub_cancel_left]
            refine ⟨fun hj => ⟨hy hj, by rw [r2 j hj]⟩, mlt _, trivial⟩
          · simp (disch := omega) only [c_bnd, c_chk, c_lb0, c_lb1, c_lb2, c_lb3, L0, L1, L2, L10007, nI_add, pk_mul, ile_t, ile_f, ilt_t, ilt_f, ieq_t, ieq_f, c_rmI, setF_at, setF_ne, setF_setF, true_and, up1_at, up1_ne, pk_sub, pk_cpy_in, pk_cpy_out, Nat.zero_add, Nat.add_zero, Nat.zero_mul, Nat.sub_zero, Nat.add_sub_cancel_left]
            exact t3 j (by omega)
      show Mx (f_X7_offers_B48 _ _ _ _ _ _ _ _ _) _ _ _ _
      unfold f_X7_offers_B48
      by_cases e3 : c < w
      · have g8 := hv c e3
        simp (disch := omega) only [c_bnd, c_chk, c_lb0, c_lb1, c_lb2, c_lb3, L0, L1, L2, L10007, nI_add, pk_mul, ile_t, ile_f, ilt_t, ilt_f, ieq_t, ieq_f, c_rmI, setF_at, setF_ne, setF_setF, true_and, up1_at, up1_ne, pk_sub, pk_cpy_in, pk_cpy_out, Nat.zero_add, Nat.add_zero, Nat.zero_mul, Nat.sub_zero, Nat.add_sub_cancel_left, c_gfR h.ob h.rbasis, c_ldI h.gbasis, c_stI h.gbasis, c_gfR h.ob h.rrow, c_ldI h.grow, c_stI h.grow, L24, g4, g8]
        unfold f_X7_offers_B48_L83
        simp (disch := omega) only [c_bnd, c_chk, c_lb0, c_lb1, c_lb2, c_lb3, L0, L1, L2, L10007, nI_add, pk_mul, ile_t, ile_f, ilt_t, ilt_f, ieq_t, ieq_f, c_rmI, setF_at, setF_ne, setF_setF, true_and, up1_at, up1_ne, pk_sub, pk_cpy_in, pk_cpy_out, Nat.zero_add, Nat.add_zero, Nat.zero_mul, Nat.sub_zero, Nat.add_sub_cancel_left, c_gfR h.ob h.rbasis, c_ldI h.gbasis, c_stI h.gbasis, c_gfR h.ob h.rlead, c_ldI h.glead, c_stI h.glead, c_gfR h.ob h.rleft, c_ldI h.gleft, c_stI h.gleft, L24, g2]
        by_cases e4 : c = B.1
        · rw [if_pos e4] at hmade
          have m3 := m2 1
          simp (disch := omega) only [c_bnd, c_chk, c_lb0, c_lb1, c_lb2, c_lb3, L0, L1, L2, L10007, nI_add, pk_mul, ile_t, ile_f, ilt_t, ilt_f, ieq_t, ieq_f, c_rmI, setF_at, setF_ne, setF_setF, true_and, up1_at, up1_ne, pk_sub, pk_cpy_in, pk_cpy_out, Nat.zero_add, Nat.add_zero, Nat.zero_mul, Nat.sub_zero, Nat.add_sub_cancel_left]
          unfold f_X7_offers_B48_L121
          simp (disch := omega) only [c_bnd, c_chk, c_lb0, c_lb1, c_lb2, c_lb3, L0, L1, L2, L10007, nI_add, pk_mul, ile_t, ile_f, ilt_t, ilt_f, ieq_t, ieq_f, c_rmI, setF_at, setF_ne, setF_setF, true_and, up1_at, up1_ne, pk_sub, pk_cpy_in, pk_cpy_out, Nat.zero_add, Nat.add_zero, Nat.zero_mul, Nat.sub_zero, Nat.add_sub_cancel_left, c_gfR h.ob h.rparts, c_ldI h.gparts, c_stI h.gparts, c_gfR h.ob h.rmade, c_ldI h.gmade, c_stI h.gmade, L24, g3, g6, hmade]
          exact mx_eq rfl (fin (v c) (fun _ => rfl) _ rfl)
        · rw [if_neg e4] at hmade
          have m3 := m2 0
          rw [Nat.zero_add] at m3 hmade
          simp (disch := omega) only [c_bnd, c_chk, c_lb0, c_lb1, c_lb2, c_lb3, L0, L1, L2, L10007, nI_add, pk_mul, ile_t, ile_f, ilt_t, ilt_f, ieq_t, ieq_f, c_rmI, setF_at, setF_ne, setF_setF, true_and, up1_at, up1_ne, pk_sub, pk_cpy_in, pk_cpy_out, Nat.zero_add, Nat.add_zero, Nat.zero_mul, Nat.sub_zero, Nat.add_sub_cancel_left]
          unfold f_X7_offers_B48_L121
          simp (disch := omega) only [c_bnd, c_chk, c_lb0, c_lb1, c_lb2, c_lb3, L0, L1, L2, L10007, nI_add, pk_mul, ile_t, ile_f, ilt_t, ilt_f, ieq_t, ieq_f, c_rmI, setF_at, setF_ne, setF_setF, true_and, up1_at, up1_ne, pk_sub, pk_cpy_in, pk_cpy_out, Nat.zero_add, Nat.add_zero, Nat.zero_mul, Nat.sub_zero, Nat.add_sub_cancel_left, c_gfR h.ob h.rparts, c_ldI h.gparts, c_stI h.gparts, c_gfR h.ob h.rmade, c_ldI h.gmade, c_stI h.gmade, L24, g3, g6, hmade]
          exact mx_eq rfl (fin (v c) (fun _ => rfl) _ rfl)
      · simp (disch := omega) only [c_bnd, c_chk, c_lb0, c_lb1, c_lb2, c_lb3, L0, L1, L2, L10007, nI_add, pk_mul, ile_t, ile_f, ilt_t, ilt_f, ieq_t, ieq_f, c_rmI, setF_at, setF_ne, setF_setF, true_and, up1_at, up1_ne, pk_sub, pk_cpy_in, pk_cpy_out, Nat.zero_add, Nat.add_zero, Nat.zero_mul, Nat.sub_zero, Nat.add_sub_cancel_left, c_gfR h.ob h.rbasis, c_ldI h.gbasis, c_stI h.gbasis, L24]
        unfold f_X7_offers_B48_L83
        simp (disch := omega) only [c_bnd, c_chk, c_lb0, c_lb1, c_lb2, c_lb3, L0, L1, L2, L10007, nI_add, pk_mul, ile_t, ile_f, ilt_t, ilt_f, ieq_t, ieq_f, c_rmI, setF_at, setF_ne, setF_setF, true_and, up1_at, up1_ne, pk_sub, pk_cpy_in, pk_cpy_out, Nat.zero_add, Nat.add_zero, Nat.zero_mul, Nat.sub_zero, Nat.add_sub_cancel_left, c_gfR h.ob h.rbasis, c_ldI h.gbasis, c_stI h.gbasis, c_gfR h.ob h.rlead, c_ldI h.glead, c_stI h.glead, c_gfR h.ob h.rleft, c_ldI h.gleft, c_stI h.gleft, L24, g2]
        by_cases e4 : c = B.1
        · omega
        · rw [if_neg e4] at hmade
          have m3 := m2 0
          rw [Nat.zero_add] at m3 hmade
          unfold f_X7_offers_B48_L121
          simp (disch := omega) only [c_bnd, c_chk, c_lb0, c_lb1, c_lb2, c_lb3, L0, L1, L2, L10007, nI_add, pk_mul, ile_t, ile_f, ilt_t, ilt_f, ieq_t, ieq_f, c_rmI, setF_at, setF_ne, setF_setF, true_and, up1_at, up1_ne, pk_sub, pk_cpy_in, pk_cpy_out, Nat.zero_add, Nat.add_zero, Nat.zero_mul, Nat.sub_zero, Nat.add_sub_cancel_left, c_gfR h.ob h.rparts, c_ldI h.gparts, c_stI h.gparts, c_gfR h.ob h.rmade, c_ldI h.gmade, c_stI h.gmade, L24, g3, g6, hmade]
          exact mx_eq rfl (fin 0 (fun q => absurd q e3) _ rfl)
    · intro N2 _
      show f_X7_offers_B48 _ _ _ _ _ _ _ _ _ = _
      unfold f_X7_offers_B48
      simp (disch := omega) only [c_bnd, c_chk, c_lb0, c_lb1, c_lb2, c_lb3, L0, L1, L2, L10007, nI_add, pk_mul, ile_t, ile_f, ilt_t, ilt_f, ieq_t, ieq_f, c_rmI, setF_at, setF_ne, setF_setF, true_and, up1_at, up1_ne, pk_sub, pk_cpy_in, pk_cpy_out, Nat.zero_add, Nat.add_zero, Nat.zero_mul, Nat.sub_zero, Nat.add_sub_cancel_left, L24]
    · intro N2 ⟨t1, t2, t3⟩
      have g9 : N2 p 12 = B.1 := by rw [t1 p (by omega)]; exact f0
      simp (disch := omega) only [c_bnd, c_chk, c_lb0, c_lb1, c_lb2, c_lb3, L0, L1, L2, L10007, nI_add, pk_mul, ile_t, ile_f, ilt_t, ilt_f, ieq_t, ieq_f, c_rmI, setF_at, setF_ne, setF_setF, true_and, up1_at, up1_ne, pk_sub, pk_cpy_in, pk_cpy_out, Nat.zero_add, Nat.add_zero, Nat.zero_mul, Nat.sub_zero, Nat.add_sub_cancel_left, c_gfI h.ob, c_pfI h.ob, c_chkO h.ob, c_gfR h.ob h.rpool, c_ldI h.gpool, c_stI h.gpool, m_iAt, m_fAt, m_at, m_many h, L12, L13, L25, L144, L313, c_gfR h.ob h.rleads, c_ldI h.gleads, c_stI h.gleads, c_gfR h.ob h.rwords, c_ldI h.gwords, c_stI h.gwords, g9]
      refine mx_eq rfl ⟨hfr.trans ((frM.of t1 (by omega) (by omega)).trans ⟨fun x a b => ?_, fun z hz => ?_⟩), ?_, fun k hk => ?_⟩
      · simp (disch := omega) only [c_bnd, c_chk, c_lb0, c_lb1, c_lb2, c_lb3, L0, L1, L2, L10007, nI_add, pk_mul, ile_t, ile_f, ilt_t, ilt_f, ieq_t, ieq_f, c_rmI, setF_at, setF_ne, setF_setF, true_and, up1_at, up1_ne, pk_sub, pk_cpy_in, pk_cpy_out, Nat.zero_add, Nat.add_zero, Nat.zero_mul, Nat.sub_zero, Nat.add_sub_cancel_left]
      · simp (disch := omega) only [c_bnd, c_chk, c_lb0, c_lb1, c_lb2, c_lb3, L0, L1, L2, L10007, nI_add, pk_mul, ile_t, ile_f, ilt_t, ilt_f, ieq_t, ieq_f, c_rmI, setF_at, setF_ne, setF_setF, true_and, up1_at, up1_ne, pk_sub, pk_cpy_in, pk_cpy_out, Nat.zero_add, Nat.add_zero, Nat.zero_mul, Nat.sub_zero, Nat.add_sub_cancel_left]
      · simp (disch := omega) only [c_bnd, c_chk, c_lb0, c_lb1, c_lb2, c_lb3, L0, L1, L2, L10007, nI_add, pk_mul, ile_t, ile_f, ilt_t, ilt_f, ieq_t, ieq_f, c_rmI, setF_at, setF_ne, setF_setF, true_and, up1_at, up1_ne, pk_sub, pk_cpy_in, pk_cpy_out, Nat.zero_add, Nat.add_zero, Nat.zero_mul, Nat.sub_zero, Nat.add_sub_cancel_left]
      · have hk' : k < B.1 + 1 := hk
        dsimp only
        by_cases e4 : k = B.1
        · subst e4
          rw [up_at, up_at, up_at, up_at, up_at]
          simp (disch := omega) only [c_bnd, c_chk, c_lb0, c_lb1, c_lb2, c_lb3, L0, L1, L2, L10007, nI_add, pk_mul, ile_t, ile_f, ilt_t, ilt_f, ieq_t, ieq_f, c_rmI, setF_at, setF_ne, setF_setF, true_and, up1_at, up1_ne, pk_sub, pk_cpy_in, pk_cpy_out, Nat.zero_add, Nat.add_zero, Nat.zero_mul, Nat.sub_zero, Nat.add_sub_cancel_left]
          refine ⟨fun j hj => ?_, fun j hj => ?_⟩
          · exact (t3 j (by omega)).1 hj
          · exact (t3 j hj).2
        · rw [up_ne e4, up_ne e4, up_ne e4, up_ne e4, up_ne e4]
          obtain ⟨z1, z2, z3, z4⟩ := hB1.2 k (by omega)
          have t9 : N2 (p + 9) = N1 (p + 9) := t1 _ (by omega)
          have t8 : N2 (p + 8) = N1 (p + 8) := t1 _ (by omega)
          simp (disch := omega) only [c_bnd, c_chk, c_lb0, c_lb1, c_lb2, c_lb3, L0, L1, L2, L10007, nI_add, pk_mul, ile_t, ile_f, ilt_t, ilt_f, ieq_t, ieq_f, c_rmI, setF_at, setF_ne, setF_setF, true_and, up1_at, up1_ne, pk_sub, pk_cpy_in, pk_cpy_out, Nat.zero_add, Nat.add_zero, Nat.zero_mul, Nat.sub_zero, Nat.add_sub_cancel_left, t9, t8]
          refine ⟨z1, z2, fun j hj => ?_, fun j hj => ?_⟩
          · obtain ⟨y1, y2, y3⟩ := t2 (24 * k + j) (by omega)
            rw [y1, y2]
            exact z3 j hj
          · obtain ⟨y1, y2, y3⟩ := t2 (24 * k + j) (by omega)
            rw [y2, y3]
            exact z4 j hj
end MB2
