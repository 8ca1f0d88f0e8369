/-! ===== the class's automata: star, quotients, reversal, steps ===== -/
def stpA (A : Au) (l : Nat) (v : Nat → Nat) (j : Nat) : Nat := nsum A.1 (fun i => v i * A.2.2.2 l i j) % 10007
theorem stpA_lt {A : Au} {l j : Nat} {v : Nat → Nat} : stpA A l v j < 10007 := mlt _
section CF
variable {Γ : zSh} {N : Mem} {R : Nat → Nat → Nat} {J : Nat → Nat → Int64} {a x y cap cx cy n t m l : Nat} {A X Y : Au}
theorem s_take (h : auS Γ R a cap) (hA : cAu N a A) (hc : A.1 ≤ cap) (ok : okA A) (hl : l < 2) {rt m2 : Nat} (ht : Γ t = some (0, m)) (hm : A.1 ≤ m) (hm2 : m ≤ 10000) (hr : Γ rt = some (0, m2)) (hr1 : A.1 ≤ m2) (hr2 : m2 ≤ 10000) (hd : (rt < a ∨ a + 6 ≤ rt) ∧ rt ≠ t) (b1 : ∀ i, i < A.1 → N t i < 10007) :
    f_X0_takeStep Γ a t (nI l) rt (cS N R J) = some ((), cS (setF N rt (fun j => if j < A.1 then stpA A l (N t) j else N rt j)) R J) := by
  have hc24 := h.c24
  have ha := h.a0
  have e0 := hA.1
  unfold f_X0_takeStep
  simp (disch := omega) only [c_bnd, c_chk, c_lb0, c_lb1, c_lb2, c_lb3, L0, L1, L2, L10007, nI_add, pk_mul, ile_t, ile_f, ilt_t, ilt_f, ieq_t, ieq_f, c_rmI, setF_at, setF_ne, setF_setF, true_and, up1_at, up1_ne, pk_sub, pk_cpy_in, pk_cpy_out, Nat.zero_add, Nat.add_zero, Nat.zero_mul, Nat.sub_zero, Nat.add_sub_cancel_left, c_gfI h.ob, c_pfI h.ob, c_gfR h.ob h.r1, c_gfR h.ob h.r2, c_gfR h.ob h.r3, c_ldI h.g1, c_ldI h.g2, c_stI h.g1, c_stI h.g2, c_chkO h.ob, e0, s_fill hr]
  have e1 : setF N rt (fun j => if 0 ≤ j ∧ j < A.1 then 0 else N rt j) t = N t := setF_ne (by omega)
  have e2 : setF N rt (fun j => if 0 ≤ j ∧ j < A.1 then 0 else N rt j) (a + 4 + l) = N (a + 4 + l) := setF_ne (by omega)
  rw [s_addStep h (n := A.1) (by simp (disch := omega) only [c_bnd, c_chk, c_lb0, c_lb1, c_lb2, c_lb3, L0, L1, L2, L10007, nI_add, pk_mul, ile_t, ile_f, ilt_t, ilt_f, ieq_t, ieq_f, c_rmI, setF_at, setF_ne, setF_setF, true_and, up1_at, up1_ne, pk_sub, pk_cpy_in, pk_cpy_out, Nat.zero_add, Nat.add_zero, Nat.zero_mul, Nat.sub_zero, Nat.add_sub_cancel_left, e0]) hc hl ht hm hm2 hr hr1 hr2 hd (fun i hi => by rw [e1]; exact b1 i hi) (fun i j hi hj => by rw [e2, (hA.2 i hi).2.2 j l hj hl]; exact (ok i hi).2.2 j l hj hl) (fun j hj => by rw [setF_at, if_pos ⟨Nat.zero_le _, hj⟩]; omega)]
  simp (disch := omega) only [c_bnd, c_chk, c_lb0, c_lb1, c_lb2, c_lb3, L0, L1, L2, L10007, nI_add, pk_mul, ile_t, ile_f, ilt_t, ilt_f, ieq_t, ieq_f, c_rmI, setF_at, setF_ne, setF_setF, true_and, up1_at, up1_ne, pk_sub, pk_cpy_in, pk_cpy_out, Nat.zero_add, Nat.add_zero, Nat.zero_mul, Nat.sub_zero, Nat.add_sub_cancel_left, e1, e2]
  have : (fun j => if j < A.1 then ((if 0 ≤ j ∧ j < A.1 then 0 else N rt j) + colS (N (a + 4 + l)) A.1 (N t) j) % 10007 else if 0 ≤ j ∧ j < A.1 then 0 else N rt j) = fun j => if j < A.1 then stpA A l (N t) j else N rt j := by
    funext j
    by_cases e : j < A.1
    · rw [if_pos e, if_pos e, if_pos ⟨Nat.zero_le _, e⟩, Nat.zero_add]
      unfold colS stpA
      rw [nsum_congr (fun i hi => by rw [(hA.2 i hi).2.2 j l e hl])]
    · rw [if_neg e, if_neg e, if_neg (by omega)]
  rw [this]
theorem s_after (h : auS Γ R a cap) (k : auS Γ R x cx) (d : a + 6 ≤ x ∨ x + 6 ≤ a) (hX : cAu N x X) (hA : cAu N a X) (hc : X.1 ≤ cap) (hx : X.1 ≤ cx) (ok : okA X) (hl : l < 2) : Mx (f_X0_startAfter Γ a x (nI l) (cS N R J)) (fun σ => ((), σ)) R J (fun N' => frA N N' a (a + 6) ∧ cAu N' a (quoA X l)) := by
  have hc24 := h.c24
  have ha := h.a0
  unfold f_X0_startAfter
  rw [L0]
  refine mx_lb0 (mx_for (fun c N' => frA N N' (a + 1) (a + 2) ∧ ∀ i, i < X.1 → i < c → N' (a + 1) i = intA X l i) (e := X.1) (by omega) (by omega) ⟨frA.refl, fun i _ e => absurd e (by omega)⟩ ?_ ?_) ?_
  · intro c N1 _ hcc ⟨p1, p2⟩
    have e0 : N1 a 0 = X.1 := by rw [p1 a (by omega)]; exact hA.1
    have hX1 := hX.fr p1 (by omega)
    show Mx (f_X0_startAfter_B2 _ _ _ _ _ _) _ _ _ _
    unfold f_X0_startAfter_B2
    simp (disch := omega) only [c_bnd, c_chk, c_lb0, c_lb1, c_lb2, c_lb3, L0, L1, L2, L10007, nI_add, pk_mul, ile_t, ile_f, ilt_t, ilt_f, ieq_t, ieq_f, c_rmI, setF_at, setF_ne, setF_setF, true_and, up1_at, up1_ne, pk_sub, pk_cpy_in, pk_cpy_out, Nat.zero_add, Nat.add_zero, Nat.zero_mul, Nat.sub_zero, Nat.add_sub_cancel_left, c_gfI h.ob, c_pfI h.ob, c_gfR h.ob h.r1, c_gfR h.ob h.r2, c_gfR h.ob h.r3, c_ldI h.g1, c_ldI h.g2, c_stI h.g1, c_stI h.g2, c_chkO h.ob, c_gfI k.ob, c_pfI k.ob, c_gfR k.ob k.r1, c_gfR k.ob k.r2, c_gfR k.ob k.r3, c_ldI k.g1, c_ldI k.g2, c_stI k.g1, c_stI k.g2, c_chkO k.ob, e0, s_int k hX1 hx ok hl hcc]
    refine mx_eq rfl ?_
    refine ⟨p1.trans (frA.set (by omega) (by omega)), fun i hi hi2 => ?_⟩
    by_cases e : i = c
    · subst e
      simp (disch := omega) only [c_bnd, c_chk, c_lb0, c_lb1, c_lb2, c_lb3, L0, L1, L2, L10007, nI_add, pk_mul, ile_t, ile_f, ilt_t, ilt_f, ieq_t, ieq_f, c_rmI, setF_at, setF_ne, setF_setF, true_and, up1_at, up1_ne, pk_sub, pk_cpy_in, pk_cpy_out, Nat.zero_add, Nat.add_zero, Nat.zero_mul, Nat.sub_zero, Nat.add_sub_cancel_left]
    · simp (disch := omega) only [c_bnd, c_chk, c_lb0, c_lb1, c_lb2, c_lb3, L0, L1, L2, L10007, nI_add, pk_mul, ile_t, ile_f, ilt_t, ilt_f, ieq_t, ieq_f, c_rmI, setF_at, setF_ne, setF_setF, true_and, up1_at, up1_ne, pk_sub, pk_cpy_in, pk_cpy_out, Nat.zero_add, Nat.add_zero, Nat.zero_mul, Nat.sub_zero, Nat.add_sub_cancel_left]
      exact p2 i hi (by omega)
  · intro N1 ⟨p1, p2⟩
    have e0 : N1 a 0 = X.1 := by rw [p1 a (by omega)]; exact hA.1
    show f_X0_startAfter_B2 _ _ _ _ _ _ = _
    unfold f_X0_startAfter_B2
    simp (disch := omega) only [c_bnd, c_chk, c_lb0, c_lb1, c_lb2, c_lb3, L0, L1, L2, L10007, nI_add, pk_mul, ile_t, ile_f, ilt_t, ilt_f, ieq_t, ieq_f, c_rmI, setF_at, setF_ne, setF_setF, true_and, up1_at, up1_ne, pk_sub, pk_cpy_in, pk_cpy_out, Nat.zero_add, Nat.add_zero, Nat.zero_mul, Nat.sub_zero, Nat.add_sub_cancel_left, c_gfI h.ob, c_pfI h.ob, c_gfR h.ob h.r1, c_gfR h.ob h.r2, c_gfR h.ob h.r3, c_ldI h.g1, c_ldI h.g2, c_stI h.g1, c_stI h.g2, c_chkO h.ob, e0]
  · intro N1 ⟨p1, p2⟩
    refine mx_eq rfl ?_
    refine ⟨p1.mono (by omega) (by omega), ?_, fun i hi => ⟨p2 i hi hi, ?_, fun j l hj hl => ?_⟩⟩
    · rw [p1 a (by omega)]; exact hA.1
    · rw [p1 (a + 2) (by omega)]; exact (hA.2 i hi).2.1
    · rw [p1 (a + 4 + l) (by omega)]; exact (hA.2 i hi).2.2 j l hj hl
theorem s_transpose {g : Nat} (h : auS Γ R a cap) (hn : N a 0 = n) (hc : n ≤ cap) (hg : Γ g = some (0, cap * cap)) (hga : g ≠ a) : Mx (f_X0_transpose Γ a g (cS N R J)) (fun σ => ((), σ)) R J (fun N' => frA N N' g (g + 1) ∧ ∀ i j, i < n → j < n → N' g (i * n + j) = N g (j * n + i)) := by
  have hc24 := h.c24
  have hsq := h.sq'
  have ha := h.a0
  unfold f_X0_transpose
  rw [L0]
  let D : Nat → Nat → Mem → Prop := fun r c N' => frA N N' g (g + 1) ∧ ∀ i j, i < n → j < n → N' g (i * n + j) = if (i < j ∧ (j < r ∨ j = r ∧ i < c)) ∨ (j < i ∧ (i < r ∨ i = r ∧ j < c)) then N g (j * n + i) else N g (i * n + j)
  refine mx_lb0 (mx_for (fun r N' => D r 0 N') (e := n) (by omega) (by omega) ⟨frA.refl, fun i j _ _ => by rw [if_neg (by omega)]⟩ ?_ ?_) ?_
  · intro r N1 _ hr r1
    have e0 : N1 a 0 = n := by rw [r1.1 a (by omega)]; exact hn
    show Mx (f_X0_transpose_B2 _ _ _ _ _) _ _ _ _
    unfold f_X0_transpose_B2
    simp (disch := omega) only [c_bnd, c_chk, c_lb0, c_lb1, c_lb2, c_lb3, L0, L1, L2, L10007, nI_add, pk_mul, ile_t, ile_f, ilt_t, ilt_f, ieq_t, ieq_f, c_rmI, setF_at, setF_ne, setF_setF, true_and, up1_at, up1_ne, pk_sub, pk_cpy_in, pk_cpy_out, Nat.zero_add, Nat.add_zero, Nat.zero_mul, Nat.sub_zero, Nat.add_sub_cancel_left, c_gfI h.ob, c_pfI h.ob, c_gfR h.ob h.r1, c_gfR h.ob h.r2, c_gfR h.ob h.r3, c_ldI h.g1, c_ldI h.g2, c_stI h.g1, c_stI h.g2, c_chkO h.ob, e0]
    refine mx_lb0 (mx_for (fun c N' => D r c N') (e := r) (by omega) (by omega) r1 ?_ ?_) ?_
    · intro c N2 _ hcc r2
      have e1 : N2 a 0 = n := by rw [r2.1 a (by omega)]; exact hn
      have e2 := ix_lt hc hr (show c < n by omega)
      have e3 := ix_lt hc (show c < n by omega) hr
      have e4 := r2.2 r c hr (by omega)
      have e5 := r2.2 c r (by omega) hr
      rw [if_neg (by omega)] at e4 e5
      have e6 : r * n + c ≠ c * n + r := fun e => by
        have := ix_inj e (by omega) hr
        omega
      show Mx (f_X0_transpose_B12 _ _ _ _ _ _) _ _ _ _
      unfold f_X0_transpose_B12
      simp (disch := omega) only [c_bnd, c_chk, c_lb0, c_lb1, c_lb2, c_lb3, L0, L1, L2, L10007, nI_add, pk_mul, ile_t, ile_f, ilt_t, ilt_f, ieq_t, ieq_f, c_rmI, setF_at, setF_ne, setF_setF, true_and, up1_at, up1_ne, pk_sub, pk_cpy_in, pk_cpy_out, Nat.zero_add, Nat.add_zero, Nat.zero_mul, Nat.sub_zero, Nat.add_sub_cancel_left, c_gfI h.ob, c_pfI h.ob, c_gfR h.ob h.r1, c_gfR h.ob h.r2, c_gfR h.ob h.r3, c_ldI h.g1, c_ldI h.g2, c_stI h.g1, c_stI h.g2, c_chkO h.ob, c_ldI hg, c_stI hg, e1, e4, e5]
      refine mx_eq rfl ?_
      refine ⟨r2.1.trans (frA.set (by omega) (by omega)), fun i j hi hj => ?_⟩
      simp (disch := omega) only [c_bnd, c_chk, c_lb0, c_lb1, c_lb2, c_lb3, L0, L1, L2, L10007, nI_add, pk_mul, ile_t, ile_f, ilt_t, ilt_f, ieq_t, ieq_f, c_rmI, setF_at, setF_ne, setF_setF, true_and, up1_at, up1_ne, pk_sub, pk_cpy_in, pk_cpy_out, Nat.zero_add, Nat.add_zero, Nat.zero_mul, Nat.sub_zero, Nat.add_sub_cancel_left]
      by_cases f1 : i = c ∧ j = r
      · obtain ⟨rfl, rfl⟩ := f1
        simp (disch := omega) only [c_bnd, c_chk, c_lb0, c_lb1, c_lb2, c_lb3, L0, L1, L2, L10007, nI_add, pk_mul, ile_t, ile_f, ilt_t, ilt_f, ieq_t, ieq_f, c_rmI, setF_at, setF_ne, setF_setF, true_and, up1_at, up1_ne, pk_sub, pk_cpy_in, pk_cpy_out, Nat.zero_add, Nat.add_zero, Nat.zero_mul, Nat.sub_zero, Nat.add_sub_cancel_left]
        rw [if_pos (by omega)]
      · rw [up1_ne (fun e => f1 (ix_inj e hj hr))]
        by_cases f2 : i = r ∧ j = c
        · obtain ⟨rfl, rfl⟩ := f2
          simp (disch := omega) only [c_bnd, c_chk, c_lb0, c_lb1, c_lb2, c_lb3, L0, L1, L2, L10007, nI_add, pk_mul, ile_t, ile_f, ilt_t, ilt_f, ieq_t, ieq_f, c_rmI, setF_at, setF_ne, setF_setF, true_and, up1_at, up1_ne, pk_sub, pk_cpy_in, pk_cpy_out, Nat.zero_add, Nat.add_zero, Nat.zero_mul, Nat.sub_zero, Nat.add_sub_cancel_left]
          rw [if_pos (by omega)]
        · rw [up1_ne (fun e => f2 (ix_inj e hj (by omega))), r2.2 i j hi hj]
          by_cases f3 : (i < j ∧ (j < r ∨ j = r ∧ i < c)) ∨ (j < i ∧ (i < r ∨ i = r ∧ j < c))
          · rw [if_pos f3, if_pos (by omega)]
          · rw [if_neg f3, if_neg (by omega)]
    · intro N2 r2
      show f_X0_transpose_B12 _ _ _ _ _ _ = _
      unfold f_X0_transpose_B12
      simp (disch := omega) only [c_bnd, c_chk, c_lb0, c_lb1, c_lb2, c_lb3, L0, L1, L2, L10007, nI_add, pk_mul, ile_t, ile_f, ilt_t, ilt_f, ieq_t, ieq_f, c_rmI, setF_at, setF_ne, setF_setF, true_and, up1_at, up1_ne, pk_sub, pk_cpy_in, pk_cpy_out, Nat.zero_add, Nat.add_zero, Nat.zero_mul, Nat.sub_zero, Nat.add_sub_cancel_left]
    · intro N2 r2
      refine mx_eq rfl ?_
      refine ⟨r2.1, fun i j hi hj => ?_⟩
      rw [r2.2 i j hi hj]
      by_cases f3 : (i < j ∧ (j < r ∨ j = r ∧ i < r)) ∨ (j < i ∧ (i < r ∨ i = r ∧ j < r))
      · rw [if_pos f3, if_pos (by omega)]
      · rw [if_neg f3, if_neg (by omega)]
  · intro N1 r1
    have e0 : N1 a 0 = n := by rw [r1.1 a (by omega)]; exact hn
    show f_X0_transpose_B2 _ _ _ _ _ = _
    unfold f_X0_transpose_B2
    simp (disch := omega) only [c_bnd, c_chk, c_lb0, c_lb1, c_lb2, c_lb3, L0, L1, L2, L10007, nI_add, pk_mul, ile_t, ile_f, ilt_t, ilt_f, ieq_t, ieq_f, c_rmI, setF_at, setF_ne, setF_setF, true_and, up1_at, up1_ne, pk_sub, pk_cpy_in, pk_cpy_out, Nat.zero_add, Nat.add_zero, Nat.zero_mul, Nat.sub_zero, Nat.add_sub_cancel_left, c_gfI h.ob, c_pfI h.ob, c_gfR h.ob h.r1, c_gfR h.ob h.r2, c_gfR h.ob h.r3, c_ldI h.g1, c_ldI h.g2, c_stI h.g1, c_stI h.g2, c_chkO h.ob, e0]
  · intro N1 r1
    refine mx_eq rfl ?_
    refine ⟨r1.1, fun i j hi hj => ?_⟩
    rw [r1.2 i j hi hj]
    by_cases f3 : i = j
    · subst f3
      simp only [ite_self]
    · rw [if_pos (by omega)]
theorem s_reverse (h : auS Γ R a cap) (hA : cAu N a A) (hc : A.1 ≤ cap) : Mx (f_X0_reverse Γ a (cS N R J)) (fun σ => ((), σ)) R J (fun N' => frA N N' a (a + 6) ∧ cAu N' a (revA A)) := by
  have hc24 := h.c24
  have hsq := h.sq'
  have ha := h.a0
  unfold f_X0_reverse
  rw [L0]
  refine mx_lb0 (mx_for (fun c N' => frA N N' (a + 1) (a + 3) ∧ ∀ i, i < A.1 → N' (a + 1) i = (if i < c then A.2.2.1 i else A.2.1 i) ∧ N' (a + 2) i = if i < c then A.2.1 i else A.2.2.1 i) (e := A.1) (by omega) (by omega) ⟨frA.refl, fun i hi => ?_⟩ ?_ ?_) ?_
  · rw [if_neg (by omega), if_neg (by omega)]
    exact ⟨(hA.2 i hi).1, (hA.2 i hi).2.1⟩
  · intro c N1 _ hcc ⟨p1, p2⟩
    have e0 : N1 a 0 = A.1 := by rw [p1 a (by omega)]; exact hA.1
    obtain ⟨e1, e2⟩ := p2 c hcc
    rw [if_neg (Nat.lt_irrefl c)] at e1 e2
    show Mx (f_X0_reverse_B2 _ _ _ _) _ _ _ _
    unfold f_X0_reverse_B2
    simp (disch := omega) only [c_bnd, c_chk, c_lb0, c_lb1, c_lb2, c_lb3, L0, L1, L2, L10007, nI_add, pk_mul, ile_t, ile_f, ilt_t, ilt_f, ieq_t, ieq_f, c_rmI, setF_at, setF_ne, setF_setF, true_and, up1_at, up1_ne, pk_sub, pk_cpy_in, pk_cpy_out, Nat.zero_add, Nat.add_zero, Nat.zero_mul, Nat.sub_zero, Nat.add_sub_cancel_left, c_gfI h.ob, c_pfI h.ob, c_gfR h.ob h.r1, c_gfR h.ob h.r2, c_gfR h.ob h.r3, c_ldI h.g1, c_ldI h.g2, c_stI h.g1, c_stI h.g2, c_chkO h.ob, e0, e1, e2]
    refine mx_eq rfl ?_
    refine ⟨p1.trans ((frA.set (by omega) (by omega)).trans (frA.set (by omega) (by omega))), fun i hi => ?_⟩
    by_cases e : i = c
    · subst e
      simp (disch := omega) only [c_bnd, c_chk, c_lb0, c_lb1, c_lb2, c_lb3, L0, L1, L2, L10007, nI_add, pk_mul, ile_t, ile_f, ilt_t, ilt_f, ieq_t, ieq_f, c_rmI, setF_at, setF_ne, setF_setF, true_and, up1_at, up1_ne, pk_sub, pk_cpy_in, pk_cpy_out, Nat.zero_add, Nat.add_zero, Nat.zero_mul, Nat.sub_zero, Nat.add_sub_cancel_left]
      rw [if_pos (by omega), if_pos (by omega)]
      exact ⟨rfl, rfl⟩
    · simp (disch := omega) only [c_bnd, c_chk, c_lb0, c_lb1, c_lb2, c_lb3, L0, L1, L2, L10007, nI_add, pk_mul, ile_t, ile_f, ilt_t, ilt_f, ieq_t, ieq_f, c_rmI, setF_at, setF_ne, setF_setF, true_and, up1_at, up1_ne, pk_sub, pk_cpy_in, pk_cpy_out, Nat.zero_add, Nat.add_zero, Nat.zero_mul, Nat.sub_zero, Nat.add_sub_cancel_left]
      obtain ⟨e3, e4⟩ := p2 i hi
      rw [e3, e4]
      by_cases e6 : i < c
      · rw [if_pos e6, if_pos e6, if_pos (by omega), if_pos (by omega)]
        exact ⟨rfl, rfl⟩
      · rw [if_neg e6, if_neg e6, if_neg (by omega), if_neg (by omega)]
        exact ⟨rfl, rfl⟩
  · intro N1 ⟨p1, p2⟩
    have e0 : N1 a 0 = A.1 := by rw [p1 a (by omega)]; exact hA.1
    show f_X0_reverse_B2 _ _ _ _ = _
    unfold f_X0_reverse_B2
    simp (disch := omega) only [c_bnd, c_chk, c_lb0, c_lb1, c_lb2, c_lb3, L0, L1, L2, L10007, nI_add, pk_mul, ile_t, ile_f, ilt_t, ilt_f, ieq_t, ieq_f, c_rmI, setF_at, setF_ne, setF_setF, true_and, up1_at, up1_ne, pk_sub, pk_cpy_in, pk_cpy_out, Nat.zero_add, Nat.add_zero, Nat.zero_mul, Nat.sub_zero, Nat.add_sub_cancel_left, c_gfI h.ob, c_pfI h.ob, c_gfR h.ob h.r1, c_gfR h.ob h.r2, c_gfR h.ob h.r3, c_ldI h.g1, c_ldI h.g2, c_stI h.g1, c_stI h.g2, c_chkO h.ob, e0]
  · intro N1 ⟨p1, p2⟩
    refine mx_lb0 (mx_for (fun l N' => frA N1 N' (a + 4) (a + 6) ∧ ∀ l' i j, l' < 2 → i < A.1 → j < A.1 → N' (a + 4 + l') (i * A.1 + j) = if l' < l then A.2.2.2 l' j i else A.2.2.2 l' i j) (e := 2) (by omega) (by omega) ⟨frA.refl, fun l i j hl hi hj => ?_⟩ ?_ ?_) ?_
    · rw [if_neg (by omega), p1 (a + 4 + l) (by omega)]
      exact (hA.2 i hi).2.2 j l hj hl
    · intro l N2 _ hl ⟨r1, r2⟩
      have e0 : N2 a 0 = A.1 := by rw [r1 a (by omega), p1 a (by omega)]; exact hA.1
      show Mx (f_X0_reverse_B44 _ _ _ _) _ _ _ _
      unfold f_X0_reverse_B44
      simp (disch := omega) only [c_bnd, c_chk, c_lb0, c_lb1, c_lb2, c_lb3, L0, L1, L2, L10007, nI_add, pk_mul, ile_t, ile_f, ilt_t, ilt_f, ieq_t, ieq_f, c_rmI, setF_at, setF_ne, setF_setF, true_and, up1_at, up1_ne, pk_sub, pk_cpy_in, pk_cpy_out, Nat.zero_add, Nat.add_zero, Nat.zero_mul, Nat.sub_zero, Nat.add_sub_cancel_left, c_gfI h.ob, c_pfI h.ob, c_gfR h.ob h.r1, c_gfR h.ob h.r2, c_gfR h.ob h.r3, c_ldI h.g1, c_ldI h.g2, c_stI h.g1, c_stI h.g2, c_chkO h.ob, c_ldG h.g3 (h.rl hl), c_ldI (h.gl hl), c_stI (h.gl hl)]
      refine mx_bnd (s_transpose h e0 hc (h.gl hl) (by omega)) ?_
      intro N3 ⟨t1, t2⟩
      refine mx_eq rfl ?_
      refine ⟨r1.trans (t1.mono (by omega) (by omega)), fun l' i j f1 f2 f3 => ?_⟩
      by_cases f4 : l' = l
      · subst f4
        rw [t2 i j f2 f3, r2 l' j i f1 f3 f2, if_neg (by omega), if_pos (by omega)]
      · rw [t1 (a + 4 + l') (by omega), r2 l' i j f1 f2 f3]
        by_cases f5 : l' < l
        · rw [if_pos f5, if_pos (by omega)]
        · rw [if_neg f5, if_neg (by omega)]
    · intro N2 _
      show f_X0_reverse_B44 _ _ _ _ = _
      unfold f_X0_reverse_B44
      simp (disch := omega) only [c_bnd, c_chk, c_lb0, c_lb1, c_lb2, c_lb3, L0, L1, L2, L10007, nI_add, pk_mul, ile_t, ile_f, ilt_t, ilt_f, ieq_t, ieq_f, c_rmI, setF_at, setF_ne, setF_setF, true_and, up1_at, up1_ne, pk_sub, pk_cpy_in, pk_cpy_out, Nat.zero_add, Nat.add_zero, Nat.zero_mul, Nat.sub_zero, Nat.add_sub_cancel_left]
    · intro N2 ⟨r1, r2⟩
      refine mx_eq rfl ?_
      refine ⟨(p1.mono (by omega) (by omega)).trans (r1.mono (by omega) (by omega)), ?_, fun i hi => ⟨?_, ?_, fun j l hj hl => ?_⟩⟩
      · rw [r1 a (by omega), p1 a (by omega)]; exact hA.1
      · have hi' : i < A.1 := hi
        rw [r1 (a + 1) (by omega), (p2 i hi).1, if_pos hi']
        rfl
      · have hi' : i < A.1 := hi
        rw [r1 (a + 2) (by omega), (p2 i hi).2, if_pos hi']
        rfl
      · refine (r2 l i j hl hi hj).trans ?_
        rw [if_pos hl]
        rfl
end CF
