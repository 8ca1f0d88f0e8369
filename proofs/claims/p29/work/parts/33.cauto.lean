/-! ===== the class's automata, on ===== -/
def wtA (A : Au) (v : Nat → Nat) : Nat := nsum A.1 (fun i => v i * A.2.2.1 i) % 10007
def outA (A : Au) (l i : Nat) : Nat := nsum A.1 (fun j => A.2.2.2 l i j * A.2.2.1 j) % 10007
def intA (A : Au) (l j : Nat) : Nat := nsum A.1 (fun i => A.2.1 i * A.2.2.2 l i j) % 10007
theorem wtA_lt {A : Au} {v : Nat → Nat} : wtA A v < 10007 := mlt _
theorem outA_lt {A : Au} {l i : Nat} : outA A l i < 10007 := mlt _
theorem intA_lt {A : Au} {l i : Nat} : intA A l i < 10007 := mlt _
theorem row_le {n i : Nat} (h : i < n) : i * n + n ≤ n * n := by
  have : (i + 1) * n ≤ n * n := Nat.mul_le_mul_right n h
  rw [Nat.add_mul, Nat.one_mul] at this
  exact this
theorem ix_seg {n i j i0 o m : Nat} (hi : i ≠ i0) (hj : j < n) (ho : o + m ≤ n) : i * n + j < i0 * n + o ∨ i0 * n + o + m ≤ i * n + j := by
  rcases (by omega : i < i0 ∨ i0 < i) with h | h
  · have : (i + 1) * n ≤ i0 * n := Nat.mul_le_mul_right n h
    rw [Nat.add_mul, Nat.one_mul] at this
    omega
  · have : (i0 + 1) * n ≤ i * n := Nat.mul_le_mul_right n h
    rw [Nat.add_mul, Nat.one_mul] at this
    omega
section CB
variable {Γ : zSh} {N : Mem} {R : Nat → Nat → Nat} {J : Nat → Nat → Int64} {a x y cap cx cy n t m : Nat} {A X Y : Au}
theorem s_wt (h : auS Γ R a cap) (hA : cAu N a A) (hc : A.1 ≤ cap) (ok : okA A) (ht : Γ t = some (0, m)) (hm : A.1 ≤ m) (hm2 : m ≤ 10000) (b : ∀ i, i < A.1 → N t i < 10007) : f_X0_weightFrom Γ a t (cS N R J) = some (nI (wtA A (N t)), cS N R J) := by
  rw [s_weightFrom h hA.1 hc ht hm hm2 b (fun i hi => by rw [(hA.2 i hi).2.1]; exact (ok i hi).2.1)]
  unfold wtA
  rw [nsum_congr (fun i hi => by rw [(hA.2 i hi).2.1])]
theorem s_empty (h : auS Γ R a cap) (hA : cAu N a A) (hc : A.1 ≤ cap) (ok : okA A) : f_X0_emptyWeight Γ a (cS N R J) = some (nI (wtA A A.2.1), cS N R J) := by
  have hc24 := h.c24
  have ha := h.a0
  unfold f_X0_emptyWeight
  simp (disch := omega) only [c_bnd, c_chk, c_lb0, c_lb1, c_lb2, c_lb3, L0, L1, L2, L10007, nI_add, pk_mul, ile_t, ile_f, ilt_t, ilt_f, ieq_t, ieq_f, c_rmI, setF_at, setF_ne, setF_setF, true_and, up1_at, up1_ne, pk_sub, pk_cpy_in, pk_cpy_out, Nat.zero_add, Nat.add_zero, Nat.zero_mul, Nat.sub_zero, Nat.add_sub_cancel_left, c_gfI h.ob, c_pfI h.ob, c_gfR h.ob h.r1, c_gfR h.ob h.r2, c_gfR h.ob h.r3, c_ldI h.g1, c_ldI h.g2, c_stI h.g1, c_stI h.g2, c_chkO h.ob]
  rw [s_wt h hA hc ok h.g1 hc (by omega) (fun i hi => by rw [(hA.2 i hi).1]; exact (ok i hi).1)]
  unfold wtA
  rw [nsum_congr (fun i hi => by rw [(hA.2 i hi).1])]
  simp (disch := omega) only [c_bnd, c_chk, c_lb0, c_lb1, c_lb2, c_lb3, L0, L1, L2, L10007, nI_add, pk_mul, ile_t, ile_f, ilt_t, ilt_f, ieq_t, ieq_f, c_rmI, setF_at, setF_ne, setF_setF, true_and, up1_at, up1_ne, pk_sub, pk_cpy_in, pk_cpy_out, Nat.zero_add, Nat.add_zero, Nat.zero_mul, Nat.sub_zero, Nat.add_sub_cancel_left]
theorem s_copy (h : auS Γ R a cap) (k : auS Γ R x cx) (d : a + 6 ≤ x ∨ x + 6 ≤ a) (hX : cAu N x X) (hc : X.1 ≤ cap) (hx : X.1 ≤ cx) : Mx (f_X0_copyFrom Γ a x (cS N R J)) (fun σ => ((), σ)) R J (fun N' => frA N N' a (a + 6) ∧ cAu N' a X) := by
  have hc24 := h.c24
  have hsq := h.sq'
  have hnn := sq_le hc
  have ha := h.a0
  have hc24' := k.c24
  have hsq' := k.sq'
  have hnn' := sq_le hx
  have ha' := k.a0
  have e0 := hX.1
  unfold f_X0_copyFrom
  simp (disch := omega) only [c_bnd, c_chk, c_lb0, c_lb1, c_lb2, c_lb3, L0, L1, L2, L10007, nI_add, pk_mul, ile_t, ile_f, ilt_t, ilt_f, ieq_t, ieq_f, c_rmI, setF_at, setF_ne, setF_setF, true_and, up1_at, up1_ne, pk_sub, pk_cpy_in, pk_cpy_out, Nat.zero_add, Nat.add_zero, Nat.zero_mul, Nat.sub_zero, Nat.add_sub_cancel_left, c_gfI h.ob, c_pfI h.ob, c_gfR h.ob h.r1, c_gfR h.ob h.r2, c_gfR h.ob h.r3, c_ldI h.g1, c_ldI h.g2, c_stI h.g1, c_stI h.g2, c_chkO h.ob, c_gfI k.ob, c_pfI k.ob, c_gfR k.ob k.r1, c_gfR k.ob k.r2, c_gfR k.ob k.r3, c_ldI k.g1, c_ldI k.g2, c_stI k.g1, c_stI k.g2, c_chkO k.ob, e0, c_cpI k.g1 h.g1, c_cpI k.g2 h.g2]
  refine mx_lb0 (mx_for (fun l N' => frA N N' a (a + 6) ∧ N' a 0 = X.1 ∧ (∀ i, i < X.1 → N' (a + 1) i = X.2.1 i ∧ N' (a + 2) i = X.2.2.1 i) ∧ ∀ l' i j, l' < l → i < X.1 → j < X.1 → N' (a + 4 + l') (i * X.1 + j) = X.2.2.2 l' i j) (e := 2) (by omega) (by omega) ?_ ?_ ?_) ?_
  · refine ⟨fun x e => ?_, ?_, fun i hi => ⟨?_, ?_⟩, fun l' i j e => absurd e (by omega)⟩
    · simp (disch := omega) only [c_bnd, c_chk, c_lb0, c_lb1, c_lb2, c_lb3, L0, L1, L2, L10007, nI_add, pk_mul, ile_t, ile_f, ilt_t, ilt_f, ieq_t, ieq_f, c_rmI, setF_at, setF_ne, setF_setF, true_and, up1_at, up1_ne, pk_sub, pk_cpy_in, pk_cpy_out, Nat.zero_add, Nat.add_zero, Nat.zero_mul, Nat.sub_zero, Nat.add_sub_cancel_left]
    · simp (disch := omega) only [c_bnd, c_chk, c_lb0, c_lb1, c_lb2, c_lb3, L0, L1, L2, L10007, nI_add, pk_mul, ile_t, ile_f, ilt_t, ilt_f, ieq_t, ieq_f, c_rmI, setF_at, setF_ne, setF_setF, true_and, up1_at, up1_ne, pk_sub, pk_cpy_in, pk_cpy_out, Nat.zero_add, Nat.add_zero, Nat.zero_mul, Nat.sub_zero, Nat.add_sub_cancel_left]
    · simp (disch := omega) only [c_bnd, c_chk, c_lb0, c_lb1, c_lb2, c_lb3, L0, L1, L2, L10007, nI_add, pk_mul, ile_t, ile_f, ilt_t, ilt_f, ieq_t, ieq_f, c_rmI, setF_at, setF_ne, setF_setF, true_and, up1_at, up1_ne, pk_sub, pk_cpy_in, pk_cpy_out, Nat.zero_add, Nat.add_zero, Nat.zero_mul, Nat.sub_zero, Nat.add_sub_cancel_left, (hX.2 i hi).1]
    · simp (disch := omega) only [c_bnd, c_chk, c_lb0, c_lb1, c_lb2, c_lb3, L0, L1, L2, L10007, nI_add, pk_mul, ile_t, ile_f, ilt_t, ilt_f, ieq_t, ieq_f, c_rmI, setF_at, setF_ne, setF_setF, true_and, up1_at, up1_ne, pk_sub, pk_cpy_in, pk_cpy_out, Nat.zero_add, Nat.add_zero, Nat.zero_mul, Nat.sub_zero, Nat.add_sub_cancel_left, (hX.2 i hi).2.1]
  · intro l N1 _ hl ⟨q1, q2, q3, q4⟩
    show Mx (f_X0_copyFrom_B44 _ _ _ _ _) _ _ _ _
    unfold f_X0_copyFrom_B44
    simp (disch := omega) only [c_bnd, c_chk, c_lb0, c_lb1, c_lb2, c_lb3, L0, L1, L2, L10007, nI_add, pk_mul, ile_t, ile_f, ilt_t, ilt_f, ieq_t, ieq_f, c_rmI, setF_at, setF_ne, setF_setF, true_and, up1_at, up1_ne, pk_sub, pk_cpy_in, pk_cpy_out, Nat.zero_add, Nat.add_zero, Nat.zero_mul, Nat.sub_zero, Nat.add_sub_cancel_left, c_gfI h.ob, c_pfI h.ob, c_gfR h.ob h.r1, c_gfR h.ob h.r2, c_gfR h.ob h.r3, c_ldI h.g1, c_ldI h.g2, c_stI h.g1, c_stI h.g2, c_chkO h.ob, c_gfI k.ob, c_pfI k.ob, c_gfR k.ob k.r1, c_gfR k.ob k.r2, c_gfR k.ob k.r3, c_ldI k.g1, c_ldI k.g2, c_stI k.g1, c_stI k.g2, c_chkO k.ob, c_ldG h.g3 (h.rl hl), c_ldI (h.gl hl), c_stI (h.gl hl), c_ldG k.g3 (k.rl hl), c_ldI (k.gl hl), c_stI (k.gl hl), q2, c_cpI (k.gl hl) (h.gl hl)]
    refine mx_eq rfl ?_
    refine ⟨q1.trans (frA.set (by omega) (by omega)), ?_, fun i hi => ?_, fun l' i j e1 e2 e3 => ?_⟩
    · simp (disch := omega) only [c_bnd, c_chk, c_lb0, c_lb1, c_lb2, c_lb3, L0, L1, L2, L10007, nI_add, pk_mul, ile_t, ile_f, ilt_t, ilt_f, ieq_t, ieq_f, c_rmI, setF_at, setF_ne, setF_setF, true_and, up1_at, up1_ne, pk_sub, pk_cpy_in, pk_cpy_out, Nat.zero_add, Nat.add_zero, Nat.zero_mul, Nat.sub_zero, Nat.add_sub_cancel_left, q2]
    · simp (disch := omega) only [c_bnd, c_chk, c_lb0, c_lb1, c_lb2, c_lb3, L0, L1, L2, L10007, nI_add, pk_mul, ile_t, ile_f, ilt_t, ilt_f, ieq_t, ieq_f, c_rmI, setF_at, setF_ne, setF_setF, true_and, up1_at, up1_ne, pk_sub, pk_cpy_in, pk_cpy_out, Nat.zero_add, Nat.add_zero, Nat.zero_mul, Nat.sub_zero, Nat.add_sub_cancel_left, q3 i hi, and_self]
    · have hz := ix_lt' e2 e3
      by_cases e : l' = l
      · subst e
        simp (disch := omega) only [c_bnd, c_chk, c_lb0, c_lb1, c_lb2, c_lb3, L0, L1, L2, L10007, nI_add, pk_mul, ile_t, ile_f, ilt_t, ilt_f, ieq_t, ieq_f, c_rmI, setF_at, setF_ne, setF_setF, true_and, up1_at, up1_ne, pk_sub, pk_cpy_in, pk_cpy_out, Nat.zero_add, Nat.add_zero, Nat.zero_mul, Nat.sub_zero, Nat.add_sub_cancel_left]
        rw [q1 (x + 4 + l') (by omega)]
        exact (hX.2 i e2).2.2 j l' e3 hl
      · simp (disch := omega) only [c_bnd, c_chk, c_lb0, c_lb1, c_lb2, c_lb3, L0, L1, L2, L10007, nI_add, pk_mul, ile_t, ile_f, ilt_t, ilt_f, ieq_t, ieq_f, c_rmI, setF_at, setF_ne, setF_setF, true_and, up1_at, up1_ne, pk_sub, pk_cpy_in, pk_cpy_out, Nat.zero_add, Nat.add_zero, Nat.zero_mul, Nat.sub_zero, Nat.add_sub_cancel_left]
        exact q4 l' i j (by omega) e2 e3
  · intro N1 _
    show f_X0_copyFrom_B44 _ _ _ _ _ = _
    unfold f_X0_copyFrom_B44
    simp (disch := omega) only [c_bnd, c_chk, c_lb0, c_lb1, c_lb2, c_lb3, L0, L1, L2, L10007, nI_add, pk_mul, ile_t, ile_f, ilt_t, ilt_f, ieq_t, ieq_f, c_rmI, setF_at, setF_ne, setF_setF, true_and, up1_at, up1_ne, pk_sub, pk_cpy_in, pk_cpy_out, Nat.zero_add, Nat.add_zero, Nat.zero_mul, Nat.sub_zero, Nat.add_sub_cancel_left]
  · intro N1 q
    refine mx_eq rfl ?_
    exact ⟨q.1, q.2.1, fun i hi => ⟨(q.2.2.1 i hi).1, (q.2.2.1 i hi).2, fun j l hj hl => q.2.2.2 l i j hl hi hj⟩⟩
theorem s_place (h : auS Γ R a cap) (k : auS Γ R x cx) (d : a + 6 ≤ x ∨ x + 6 ≤ a) (hX : cAu N x X) (hx : X.1 ≤ cx) {na o : Nat} (hn : N a 0 = na) (hc : na ≤ cap) (ho : o + X.1 ≤ na) : Mx (f_X0_placeBlock Γ a x (nI o) (cS N R J)) (fun σ => ((), σ)) R J (fun N' => frA N N' a (a + 6) ∧ N' a 0 = na ∧ (∀ i, N' (a + 1) i = (if o ≤ i ∧ i < o + X.1 then X.2.1 (i - o) else N (a + 1) i) ∧ N' (a + 2) i = if o ≤ i ∧ i < o + X.1 then X.2.2.1 (i - o) else N (a + 2) i) ∧ ∀ l i j, l < 2 → i < na → j < na → N' (a + 4 + l) (i * na + j) = if (o ≤ i ∧ i < o + X.1) ∧ o ≤ j ∧ j < o + X.1 then X.2.2.2 l (i - o) (j - o) else N (a + 4 + l) (i * na + j)) := by
  have hc24 := h.c24
  have hsq := h.sq'
  have hnn := sq_le hc
  have ha := h.a0
  have hc24' := k.c24
  have hsq' := k.sq'
  have hnn' := sq_le hx
  have ha' := k.a0
  have e0 := hX.1
  unfold f_X0_placeBlock
  simp (disch := omega) only [c_bnd, c_chk, c_lb0, c_lb1, c_lb2, c_lb3, L0, L1, L2, L10007, nI_add, pk_mul, ile_t, ile_f, ilt_t, ilt_f, ieq_t, ieq_f, c_rmI, setF_at, setF_ne, setF_setF, true_and, up1_at, up1_ne, pk_sub, pk_cpy_in, pk_cpy_out, Nat.zero_add, Nat.add_zero, Nat.zero_mul, Nat.sub_zero, Nat.add_sub_cancel_left, c_gfI h.ob, c_pfI h.ob, c_gfR h.ob h.r1, c_gfR h.ob h.r2, c_gfR h.ob h.r3, c_ldI h.g1, c_ldI h.g2, c_stI h.g1, c_stI h.g2, c_chkO h.ob, c_gfI k.ob, c_pfI k.ob, c_gfR k.ob k.r1, c_gfR k.ob k.r2, c_gfR k.ob k.r3, c_ldI k.g1, c_ldI k.g2, c_stI k.g1, c_stI k.g2, c_chkO k.ob, e0, c_cpI k.g1 h.g1, c_cpI k.g2 h.g2]
  let G : Nat → Mem → Nat → Nat → Nat → Prop := fun c N' l i j => N' (a + 4 + l) (i * na + j) = if (o ≤ i ∧ i < o + c) ∧ o ≤ j ∧ j < o + X.1 then X.2.2.2 l (i - o) (j - o) else N (a + 4 + l) (i * na + j)
  let B : Mem → Prop := fun N' => frA N N' a (a + 6) ∧ N' a 0 = na ∧ (∀ i, N' (a + 1) i = (if o ≤ i ∧ i < o + X.1 then X.2.1 (i - o) else N (a + 1) i) ∧ N' (a + 2) i = if o ≤ i ∧ i < o + X.1 then X.2.2.1 (i - o) else N (a + 2) i)
  refine mx_lb0 (mx_for (fun l N' => B N' ∧ ∀ l' i j, l' < 2 → i < na → j < na → G (if l' < l then X.1 else 0) N' l' i j) (e := 2) (by omega) (by omega) ?_ ?_ ?_) ?_
  · refine ⟨⟨fun x e => ?_, ?_, fun i => ⟨?_, ?_⟩⟩, fun l' i j e hi hj => ?_⟩
    · simp (disch := omega) only [c_bnd, c_chk, c_lb0, c_lb1, c_lb2, c_lb3, L0, L1, L2, L10007, nI_add, pk_mul, ile_t, ile_f, ilt_t, ilt_f, ieq_t, ieq_f, c_rmI, setF_at, setF_ne, setF_setF, true_and, up1_at, up1_ne, pk_sub, pk_cpy_in, pk_cpy_out, Nat.zero_add, Nat.add_zero, Nat.zero_mul, Nat.sub_zero, Nat.add_sub_cancel_left]
    · simp (disch := omega) only [c_bnd, c_chk, c_lb0, c_lb1, c_lb2, c_lb3, L0, L1, L2, L10007, nI_add, pk_mul, ile_t, ile_f, ilt_t, ilt_f, ieq_t, ieq_f, c_rmI, setF_at, setF_ne, setF_setF, true_and, up1_at, up1_ne, pk_sub, pk_cpy_in, pk_cpy_out, Nat.zero_add, Nat.add_zero, Nat.zero_mul, Nat.sub_zero, Nat.add_sub_cancel_left, hn]
    · simp (disch := omega) only [c_bnd, c_chk, c_lb0, c_lb1, c_lb2, c_lb3, L0, L1, L2, L10007, nI_add, pk_mul, ile_t, ile_f, ilt_t, ilt_f, ieq_t, ieq_f, c_rmI, setF_at, setF_ne, setF_setF, true_and, up1_at, up1_ne, pk_sub, pk_cpy_in, pk_cpy_out, Nat.zero_add, Nat.add_zero, Nat.zero_mul, Nat.sub_zero, Nat.add_sub_cancel_left]
      by_cases e : o ≤ i ∧ i < o + X.1
      · simp (disch := omega) only [c_bnd, c_chk, c_lb0, c_lb1, c_lb2, c_lb3, L0, L1, L2, L10007, nI_add, pk_mul, ile_t, ile_f, ilt_t, ilt_f, ieq_t, ieq_f, c_rmI, setF_at, setF_ne, setF_setF, true_and, up1_at, up1_ne, pk_sub, pk_cpy_in, pk_cpy_out, Nat.zero_add, Nat.add_zero, Nat.zero_mul, Nat.sub_zero, Nat.add_sub_cancel_left, if_pos e]
        exact (hX.2 (i - o) (by omega)).1
      · rw [if_neg e]
        simp (disch := omega) only [c_bnd, c_chk, c_lb0, c_lb1, c_lb2, c_lb3, L0, L1, L2, L10007, nI_add, pk_mul, ile_t, ile_f, ilt_t, ilt_f, ieq_t, ieq_f, c_rmI, setF_at, setF_ne, setF_setF, true_and, up1_at, up1_ne, pk_sub, pk_cpy_in, pk_cpy_out, Nat.zero_add, Nat.add_zero, Nat.zero_mul, Nat.sub_zero, Nat.add_sub_cancel_left]
    · simp (disch := omega) only [c_bnd, c_chk, c_lb0, c_lb1, c_lb2, c_lb3, L0, L1, L2, L10007, nI_add, pk_mul, ile_t, ile_f, ilt_t, ilt_f, ieq_t, ieq_f, c_rmI, setF_at, setF_ne, setF_setF, true_and, up1_at, up1_ne, pk_sub, pk_cpy_in, pk_cpy_out, Nat.zero_add, Nat.add_zero, Nat.zero_mul, Nat.sub_zero, Nat.add_sub_cancel_left]
      by_cases e : o ≤ i ∧ i < o + X.1
      · simp (disch := omega) only [c_bnd, c_chk, c_lb0, c_lb1, c_lb2, c_lb3, L0, L1, L2, L10007, nI_add, pk_mul, ile_t, ile_f, ilt_t, ilt_f, ieq_t, ieq_f, c_rmI, setF_at, setF_ne, setF_setF, true_and, up1_at, up1_ne, pk_sub, pk_cpy_in, pk_cpy_out, Nat.zero_add, Nat.add_zero, Nat.zero_mul, Nat.sub_zero, Nat.add_sub_cancel_left, if_pos e]
        exact (hX.2 (i - o) (by omega)).2.1
      · rw [if_neg e]
        simp (disch := omega) only [c_bnd, c_chk, c_lb0, c_lb1, c_lb2, c_lb3, L0, L1, L2, L10007, nI_add, pk_mul, ile_t, ile_f, ilt_t, ilt_f, ieq_t, ieq_f, c_rmI, setF_at, setF_ne, setF_setF, true_and, up1_at, up1_ne, pk_sub, pk_cpy_in, pk_cpy_out, Nat.zero_add, Nat.add_zero, Nat.zero_mul, Nat.sub_zero, Nat.add_sub_cancel_left]
    · show _ = _
      rw [if_neg (by omega : ¬ l' < 0), if_neg (by omega)]
      simp (disch := omega) only [c_bnd, c_chk, c_lb0, c_lb1, c_lb2, c_lb3, L0, L1, L2, L10007, nI_add, pk_mul, ile_t, ile_f, ilt_t, ilt_f, ieq_t, ieq_f, c_rmI, setF_at, setF_ne, setF_setF, true_and, up1_at, up1_ne, pk_sub, pk_cpy_in, pk_cpy_out, Nat.zero_add, Nat.add_zero, Nat.zero_mul, Nat.sub_zero, Nat.add_sub_cancel_left]
  · intro l N1 _ hl ⟨⟨q1, q2, q3⟩, q4⟩
    show Mx (f_X0_placeBlock_B36 _ _ _ _ _ _ _) _ _ _ _
    unfold f_X0_placeBlock_B36
    simp (disch := omega) only [c_bnd, c_chk, c_lb0, c_lb1, c_lb2, c_lb3, L0, L1, L2, L10007, nI_add, pk_mul, ile_t, ile_f, ilt_t, ilt_f, ieq_t, ieq_f, c_rmI, setF_at, setF_ne, setF_setF, true_and, up1_at, up1_ne, pk_sub, pk_cpy_in, pk_cpy_out, Nat.zero_add, Nat.add_zero, Nat.zero_mul, Nat.sub_zero, Nat.add_sub_cancel_left]
    refine mx_lb0 (mx_for (fun c N' => B N' ∧ ∀ l' i j, l' < 2 → i < na → j < na → G (if l' < l then X.1 else if l' = l then c else 0) N' l' i j) (e := X.1) (by omega) (by omega) ⟨⟨q1, q2, q3⟩, ?_⟩ ?_ ?_) ?_
    · intro l' i j e1 e2 e3
      have := q4 l' i j e1 e2 e3
      by_cases e : l' = l
      · subst e
        rw [if_neg (Nat.lt_irrefl l')] at this ⊢
        rw [if_pos rfl]
        exact this
      · rw [if_neg e]
        exact this
    · intro c N2 _ hcc ⟨⟨p1, p2, p3⟩, p4⟩
      have hr1 := row_le (show o + c < na by omega)
      have hr2 := row_le hcc
      show Mx (f_X0_placeBlock_B45 _ _ _ _ _ _ _ _) _ _ _ _
      unfold f_X0_placeBlock_B45
      simp (disch := omega) only [c_bnd, c_chk, c_lb0, c_lb1, c_lb2, c_lb3, L0, L1, L2, L10007, nI_add, pk_mul, ile_t, ile_f, ilt_t, ilt_f, ieq_t, ieq_f, c_rmI, setF_at, setF_ne, setF_setF, true_and, up1_at, up1_ne, pk_sub, pk_cpy_in, pk_cpy_out, Nat.zero_add, Nat.add_zero, Nat.zero_mul, Nat.sub_zero, Nat.add_sub_cancel_left, c_gfI h.ob, c_pfI h.ob, c_gfR h.ob h.r1, c_gfR h.ob h.r2, c_gfR h.ob h.r3, c_ldI h.g1, c_ldI h.g2, c_stI h.g1, c_stI h.g2, c_chkO h.ob, c_gfI k.ob, c_pfI k.ob, c_gfR k.ob k.r1, c_gfR k.ob k.r2, c_gfR k.ob k.r3, c_ldI k.g1, c_ldI k.g2, c_stI k.g1, c_stI k.g2, c_chkO k.ob, c_ldG h.g3 (h.rl hl), c_ldI (h.gl hl), c_stI (h.gl hl), c_ldG k.g3 (k.rl hl), c_ldI (k.gl hl), c_stI (k.gl hl), p2, c_cpI (k.gl hl) (h.gl hl)]
      refine mx_eq rfl ?_
      refine ⟨⟨p1.trans (frA.set (by omega) (by omega)), ?_, fun i => ?_⟩, fun l' i j e1 e2 e3 => ?_⟩
      · simp (disch := omega) only [c_bnd, c_chk, c_lb0, c_lb1, c_lb2, c_lb3, L0, L1, L2, L10007, nI_add, pk_mul, ile_t, ile_f, ilt_t, ilt_f, ieq_t, ieq_f, c_rmI, setF_at, setF_ne, setF_setF, true_and, up1_at, up1_ne, pk_sub, pk_cpy_in, pk_cpy_out, Nat.zero_add, Nat.add_zero, Nat.zero_mul, Nat.sub_zero, Nat.add_sub_cancel_left, p2]
      · simp (disch := omega) only [c_bnd, c_chk, c_lb0, c_lb1, c_lb2, c_lb3, L0, L1, L2, L10007, nI_add, pk_mul, ile_t, ile_f, ilt_t, ilt_f, ieq_t, ieq_f, c_rmI, setF_at, setF_ne, setF_setF, true_and, up1_at, up1_ne, pk_sub, pk_cpy_in, pk_cpy_out, Nat.zero_add, Nat.add_zero, Nat.zero_mul, Nat.sub_zero, Nat.add_sub_cancel_left]
        exact p3 i
      · have := p4 l' i j e1 e2 e3
        by_cases e : l' = l
        · subst e
          rw [if_neg (Nat.lt_irrefl l'), if_pos rfl] at this ⊢
          show _ = _
          simp (disch := omega) only [c_bnd, c_chk, c_lb0, c_lb1, c_lb2, c_lb3, L0, L1, L2, L10007, nI_add, pk_mul, ile_t, ile_f, ilt_t, ilt_f, ieq_t, ieq_f, c_rmI, setF_at, setF_ne, setF_setF, true_and, up1_at, up1_ne, pk_sub, pk_cpy_in, pk_cpy_out, Nat.zero_add, Nat.add_zero, Nat.zero_mul, Nat.sub_zero, Nat.add_sub_cancel_left]
          by_cases e5 : i = o + c
          · subst e5
            by_cases e6 : o ≤ j ∧ j < o + X.1
            · simp (disch := omega) only [c_bnd, c_chk, c_lb0, c_lb1, c_lb2, c_lb3, L0, L1, L2, L10007, nI_add, pk_mul, ile_t, ile_f, ilt_t, ilt_f, ieq_t, ieq_f, c_rmI, setF_at, setF_ne, setF_setF, true_and, up1_at, up1_ne, pk_sub, pk_cpy_in, pk_cpy_out, Nat.zero_add, Nat.add_zero, Nat.zero_mul, Nat.sub_zero, Nat.add_sub_cancel_left]
              rw [if_pos ⟨by omega, e6⟩, p1 (x + 4 + l') (by omega), ← (hX.2 c hcc).2.2 (j - o) l' (by omega) hl]
              congr 1
              omega
            · simp (disch := omega) only [c_bnd, c_chk, c_lb0, c_lb1, c_lb2, c_lb3, L0, L1, L2, L10007, nI_add, pk_mul, ile_t, ile_f, ilt_t, ilt_f, ieq_t, ieq_f, c_rmI, setF_at, setF_ne, setF_setF, true_and, up1_at, up1_ne, pk_sub, pk_cpy_in, pk_cpy_out, Nat.zero_add, Nat.add_zero, Nat.zero_mul, Nat.sub_zero, Nat.add_sub_cancel_left]
              rw [if_neg (by omega)]
              rw [this, if_neg (by omega)]
          · have hs := ix_seg (o := o) (m := X.1) e5 e3 (by omega)
            rw [pk_cpy_out hs, this]
            by_cases e7 : (o ≤ i ∧ i < o + c) ∧ o ≤ j ∧ j < o + X.1
            · rw [if_pos e7, if_pos (by omega)]
            · rw [if_neg e7, if_neg (by omega)]
        · rw [if_neg e] at this ⊢
          show _ = _
          simp (disch := omega) only [c_bnd, c_chk, c_lb0, c_lb1, c_lb2, c_lb3, L0, L1, L2, L10007, nI_add, pk_mul, ile_t, ile_f, ilt_t, ilt_f, ieq_t, ieq_f, c_rmI, setF_at, setF_ne, setF_setF, true_and, up1_at, up1_ne, pk_sub, pk_cpy_in, pk_cpy_out, Nat.zero_add, Nat.add_zero, Nat.zero_mul, Nat.sub_zero, Nat.add_sub_cancel_left]
          exact this
    · intro N2 _
      show f_X0_placeBlock_B45 _ _ _ _ _ _ _ _ = _
      unfold f_X0_placeBlock_B45
      simp (disch := omega) only [c_bnd, c_chk, c_lb0, c_lb1, c_lb2, c_lb3, L0, L1, L2, L10007, nI_add, pk_mul, ile_t, ile_f, ilt_t, ilt_f, ieq_t, ieq_f, c_rmI, setF_at, setF_ne, setF_setF, true_and, up1_at, up1_ne, pk_sub, pk_cpy_in, pk_cpy_out, Nat.zero_add, Nat.add_zero, Nat.zero_mul, Nat.sub_zero, Nat.add_sub_cancel_left]
    · intro N2 ⟨p1, p2⟩
      refine mx_eq rfl ?_
      refine ⟨p1, fun l' i j e1 e2 e3 => ?_⟩
      have := p2 l' i j e1 e2 e3
      by_cases e : l' = l
      · subst e
        rw [if_neg (Nat.lt_irrefl l'), if_pos rfl] at this
        rw [if_pos (by omega)]
        exact this
      · rw [if_neg e] at this
        by_cases e8 : l' < l
        · rw [if_pos e8] at this
          rw [if_pos (by omega)]
          exact this
        · rw [if_neg e8] at this
          rw [if_neg (by omega)]
          exact this
  · intro N1 _
    show f_X0_placeBlock_B36 _ _ _ _ _ _ _ = _
    unfold f_X0_placeBlock_B36
    simp (disch := omega) only [c_bnd, c_chk, c_lb0, c_lb1, c_lb2, c_lb3, L0, L1, L2, L10007, nI_add, pk_mul, ile_t, ile_f, ilt_t, ilt_f, ieq_t, ieq_f, c_rmI, setF_at, setF_ne, setF_setF, true_and, up1_at, up1_ne, pk_sub, pk_cpy_in, pk_cpy_out, Nat.zero_add, Nat.add_zero, Nat.zero_mul, Nat.sub_zero, Nat.add_sub_cancel_left]
  · intro N1 ⟨⟨q1, q2, q3⟩, q4⟩
    refine mx_eq rfl ?_
    refine ⟨q1, q2, q3, fun l i j hl hi hj => ?_⟩
    have := q4 l i j hl hi hj
    rw [if_pos hl] at this
    exact this
end CB
