/-! ===== the class's automata: Cauchy product, star, quotients, reversal ===== -/
section CD
variable {Γ : zSh} {N : Mem} {R : Nat → Nat → Nat} {J : Nat → Nat → Int64} {a x y cap cx cy n t m l : Nat} {A X Y : Au}
theorem s_mul (ht : Γ t = some (0, m)) (hm : m ≤ 10000) (hn : n ≤ m) {c : Nat} (hc : c < 10007) (b : ∀ i, i < n → N t i < 10007) : f_X6_multiply Γ t (nI c) (nI n) (cS N R J) = some ((), cS (setF N t (fun i => if i < n then N t i * c % 10007 else N t i)) R J) := by
  unfold f_X6_multiply
  rw [L0]
  refine (lb0_of (loop_for (fun k => (nI k, cS (setF N t (fun i => if i < k then N t i * c % 10007 else N t i)) R J)) (cS (setF N t (fun i => if i < n then N t i * c % 10007 else N t i)) R J) n ?_ (by unfold FUEL; omega) ?_ ?_)).trans rfl
  · have : (fun i => if i < 0 then N t i * c % 10007 else N t i) = N t := by
      funext i
      rw [if_neg (by omega)]
    rw [this, setF_self]
  · intro k hk
    have e := pmul (b k hk) hc
    show f_X6_multiply_B2 _ _ _ _ _ _ = _
    unfold f_X6_multiply_B2
    simp (disch := omega) only [c_bnd, c_chk, c_lb0, c_lb1, c_lb2, c_lb3, L0, L1, L2, L10007, nI_add, pk_mul, ile_t, ile_f, ilt_t, ilt_f, ieq_t, ieq_f, c_rmI, setF_at, setF_ne, setF_setF, true_and, up1_at, up1_ne, pk_sub, pk_cpy_in, pk_cpy_out, Nat.zero_add, Nat.add_zero, Nat.zero_mul, Nat.sub_zero, Nat.add_sub_cancel_left, c_ldI ht, c_stI ht, Nat.lt_irrefl, if_false]
    have : up1 (fun i => if i < k then N t i * c % 10007 else N t i) k (N t k * c % 10007) = fun i => if i < k + 1 then N t i * c % 10007 else N t i := by
      funext i
      by_cases e : i = k
      · subst e
        rw [up1_at, if_pos (by omega)]
      · rw [up1_ne e]
        by_cases e2 : i < k
        · rw [if_pos e2, if_pos (by omega)]
        · rw [if_neg e2, if_neg (by omega)]
    rw [this]
  · show f_X6_multiply_B2 _ _ _ _ _ _ = _
    unfold f_X6_multiply_B2
    simp (disch := omega) only [c_bnd, c_chk, c_lb0, c_lb1, c_lb2, c_lb3, L0, L1, L2, L10007, nI_add, pk_mul, ile_t, ile_f, ilt_t, ilt_f, ieq_t, ieq_f, c_rmI, setF_at, setF_ne, setF_setF, true_and, up1_at, up1_ne, pk_sub, pk_cpy_in, pk_cpy_out, Nat.zero_add, Nat.add_zero, Nat.zero_mul, Nat.sub_zero, Nat.add_sub_cancel_left]
theorem s_out (h : auS Γ R a cap) (hA : cAu N a A) (hc : A.1 ≤ cap) (ok : okA A) (hl : l < 2) {i : Nat} (hi : i < A.1) : f_X0_stepThenLast Γ a (nI l) (nI i) (cS N R J) = some (nI (outA A l i), cS N R J) := by
  have hc24 := h.c24
  have hsq := h.sq'
  have ha := h.a0
  have e0 := hA.1
  unfold f_X0_stepThenLast
  rw [L0]
  refine (lb1_of (loop_for (fun k => (nI (nsum k (fun j => A.2.2.2 l i j * A.2.2.1 j) % 10007), nI k, cS N R J)) (nI (outA A l i), cS N R J) A.1 rfl (by unfold FUEL; omega) ?_ ?_)).trans rfl
  · intro k hk
    have e1 := pmul ((ok i hi).2.2 k l hk hl) (ok k hk).2.1
    have e2 := mlt (nsum k (fun j => A.2.2.2 l i j * A.2.2.1 j))
    have e3 := ix_lt hc hi hk
    have e4 := (hA.2 i hi).2.2 k l hk hl
    have e5 := (hA.2 k hk).2.1
    show f_X0_stepThenLast_B5 _ _ _ _ _ _ _ = _
    unfold f_X0_stepThenLast_B5
    simp (disch := omega) only [c_bnd, c_chk, c_lb0, c_lb1, c_lb2, c_lb3, L0, L1, L2, L10007, nI_add, pk_mul, ile_t, ile_f, ilt_t, ilt_f, ieq_t, ieq_f, c_rmI, setF_at, setF_ne, setF_setF, true_and, up1_at, up1_ne, pk_sub, pk_cpy_in, pk_cpy_out, Nat.zero_add, Nat.add_zero, Nat.zero_mul, Nat.sub_zero, Nat.add_sub_cancel_left, c_gfI h.ob, c_pfI h.ob, c_gfR h.ob h.r1, c_gfR h.ob h.r2, c_gfR h.ob h.r3, c_ldI h.g1, c_ldI h.g2, c_stI h.g1, c_stI h.g2, c_chkO h.ob, c_ldG h.g3 (h.rl hl), c_ldI (h.gl hl), c_stI (h.gl hl), e0, e4, e5, mod_acc]
    rfl
  · show f_X0_stepThenLast_B5 _ _ _ _ _ _ _ = _
    unfold f_X0_stepThenLast_B5
    simp (disch := omega) only [c_bnd, c_chk, c_lb0, c_lb1, c_lb2, c_lb3, L0, L1, L2, L10007, nI_add, pk_mul, ile_t, ile_f, ilt_t, ilt_f, ieq_t, ieq_f, c_rmI, setF_at, setF_ne, setF_setF, true_and, up1_at, up1_ne, pk_sub, pk_cpy_in, pk_cpy_out, Nat.zero_add, Nat.add_zero, Nat.zero_mul, Nat.sub_zero, Nat.add_sub_cancel_left, c_gfI h.ob, c_pfI h.ob, c_gfR h.ob h.r1, c_gfR h.ob h.r2, c_gfR h.ob h.r3, c_ldI h.g1, c_ldI h.g2, c_stI h.g1, c_stI h.g2, c_chkO h.ob, e0]
    rfl
theorem s_int (h : auS Γ R a cap) (hA : cAu N a A) (hc : A.1 ≤ cap) (ok : okA A) (hl : l < 2) {i : Nat} (hi : i < A.1) : f_X0_initialThenStep Γ a (nI l) (nI i) (cS N R J) = some (nI (intA A l i), cS N R J) := by
  have hc24 := h.c24
  have hsq := h.sq'
  have ha := h.a0
  have e0 := hA.1
  unfold f_X0_initialThenStep
  rw [L0]
  refine (lb1_of (loop_for (fun k => (nI (nsum k (fun j => A.2.1 j * A.2.2.2 l j i) % 10007), nI k, cS N R J)) (nI (intA A l i), cS N R J) A.1 rfl (by unfold FUEL; omega) ?_ ?_)).trans rfl
  · intro k hk
    have e1 := pmul (ok k hk).1 ((ok k hk).2.2 i l hi hl)
    have e2 := mlt (nsum k (fun j => A.2.1 j * A.2.2.2 l j i))
    have e3 := ix_lt hc hk hi
    have e4 := (hA.2 k hk).2.2 i l hi hl
    have e5 := (hA.2 k hk).1
    show f_X0_initialThenStep_B5 _ _ _ _ _ _ _ = _
    unfold f_X0_initialThenStep_B5
    simp (disch := omega) only [c_bnd, c_chk, c_lb0, c_lb1, c_lb2, c_lb3, L0, L1, L2, L10007, nI_add, pk_mul, ile_t, ile_f, ilt_t, ilt_f, ieq_t, ieq_f, c_rmI, setF_at, setF_ne, setF_setF, true_and, up1_at, up1_ne, pk_sub, pk_cpy_in, pk_cpy_out, Nat.zero_add, Nat.add_zero, Nat.zero_mul, Nat.sub_zero, Nat.add_sub_cancel_left, c_gfI h.ob, c_pfI h.ob, c_gfR h.ob h.r1, c_gfR h.ob h.r2, c_gfR h.ob h.r3, c_ldI h.g1, c_ldI h.g2, c_stI h.g1, c_stI h.g2, c_chkO h.ob, c_ldG h.g3 (h.rl hl), c_ldI (h.gl hl), c_stI (h.gl hl), e0, e4, e5, mod_acc]
    rfl
  · show f_X0_initialThenStep_B5 _ _ _ _ _ _ _ = _
    unfold f_X0_initialThenStep_B5
    simp (disch := omega) only [c_bnd, c_chk, c_lb0, c_lb1, c_lb2, c_lb3, L0, L1, L2, L10007, nI_add, pk_mul, ile_t, ile_f, ilt_t, ilt_f, ieq_t, ieq_f, c_rmI, setF_at, setF_ne, setF_setF, true_and, up1_at, up1_ne, pk_sub, pk_cpy_in, pk_cpy_out, Nat.zero_add, Nat.add_zero, Nat.zero_mul, Nat.sub_zero, Nat.add_sub_cancel_left, c_gfI h.ob, c_pfI h.ob, c_gfR h.ob h.r1, c_gfR h.ob h.r2, c_gfR h.ob h.r3, c_ldI h.g1, c_ldI h.g2, c_stI h.g1, c_stI h.g2, c_chkO h.ob, e0]
    rfl
theorem s_cau (h : auS Γ R a cap) (k : auS Γ R x cx) (k' : auS Γ R y cy) (d : a + 6 ≤ x ∨ x + 6 ≤ a) (d' : a + 6 ≤ y ∨ y + 6 ≤ a) (hX : cAu N x X) (hx : X.1 ≤ cx) (hY : cAu N y Y) (hy : Y.1 ≤ cy) (hc : X.1 + Y.1 ≤ cap) (okX : okA X) (okY : okA Y) : Mx (f_X0_becomeCauchy Γ a x y (cS N R J)) (fun σ => ((), σ)) R J (fun N' => frA N N' a (a + 6) ∧ cAu N' a (cauA X Y)) := by
  have hc24 := h.c24
  have hc24' := k.c24
  have hc24'' := k'.c24
  have hsq := h.sq'
  have ha := h.a0
  have hnn := sq_le hc
  unfold f_X0_becomeCauchy
  simp (disch := omega) only [c_bnd, c_chk, c_lb0, c_lb1, c_lb2, c_lb3, L0, L1, L2, L10007, nI_add, pk_mul, ile_t, ile_f, ilt_t, ilt_f, ieq_t, ieq_f, c_rmI, setF_at, setF_ne, setF_setF, true_and, up1_at, up1_ne, pk_sub, pk_cpy_in, pk_cpy_out, Nat.zero_add, Nat.add_zero, Nat.zero_mul, Nat.sub_zero, Nat.add_sub_cancel_left, c_gfI h.ob, c_pfI h.ob, c_gfR h.ob h.r1, c_gfR h.ob h.r2, c_gfR h.ob h.r3, c_ldI h.g1, c_ldI h.g2, c_stI h.g1, c_stI h.g2, c_chkO h.ob, c_gfI k.ob, c_pfI k.ob, c_gfR k.ob k.r1, c_gfR k.ob k.r2, c_gfR k.ob k.r3, c_ldI k.g1, c_ldI k.g2, c_stI k.g1, c_stI k.g2, c_chkO k.ob, c_gfI k'.ob, c_pfI k'.ob, c_gfR k'.ob k'.r1, c_gfR k'.ob k'.r2, c_gfR k'.ob k'.r3, c_ldI k'.g1, c_ldI k'.g2, c_stI k'.g1, c_stI k'.g2, c_chkO k'.ob]
  refine mx_bnd (s_sum h k k' d d' hX hx hY hy hc) ?_
  intro N1 ⟨q1, q2⟩
  have hX1 := hX.fr q1 d.symm
  have hY1 := hY.fr q1 d'.symm
  have e0 := hX1.1
  simp (disch := omega) only [c_bnd, c_chk, c_lb0, c_lb1, c_lb2, c_lb3, L0, L1, L2, L10007, nI_add, pk_mul, ile_t, ile_f, ilt_t, ilt_f, ieq_t, ieq_f, c_rmI, setF_at, setF_ne, setF_setF, true_and, up1_at, up1_ne, pk_sub, pk_cpy_in, pk_cpy_out, Nat.zero_add, Nat.add_zero, Nat.zero_mul, Nat.sub_zero, Nat.add_sub_cancel_left, c_gfI h.ob, c_pfI h.ob, c_gfR h.ob h.r1, c_gfR h.ob h.r2, c_gfR h.ob h.r3, c_ldI h.g1, c_ldI h.g2, c_stI h.g1, c_stI h.g2, c_chkO h.ob, c_gfI k.ob, c_pfI k.ob, c_gfR k.ob k.r1, c_gfR k.ob k.r2, c_gfR k.ob k.r3, c_ldI k.g1, c_ldI k.g2, c_stI k.g1, c_stI k.g2, c_chkO k.ob, e0, s_empty k' hY1 hy okY]
  have b2 : ∀ i, i < X.1 → N1 (a + 2) i < 10007 := by
    intro i hi
    rw [(q2.2 i (show i < X.1 + Y.1 by omega)).2.1]
    show (if i < X.1 then _ else _) < _
    rw [if_pos hi]
    exact (okX i hi).2.1
  rw [s_mul h.g2 (by omega) (show X.1 ≤ cap by omega) wtA_lt b2]
  simp (disch := omega) only [c_bnd, c_chk, c_lb0, c_lb1, c_lb2, c_lb3, L0, L1, L2, L10007, nI_add, pk_mul, ile_t, ile_f, ilt_t, ilt_f, ieq_t, ieq_f, c_rmI, setF_at, setF_ne, setF_setF, true_and, up1_at, up1_ne, pk_sub, pk_cpy_in, pk_cpy_out, Nat.zero_add, Nat.add_zero, Nat.zero_mul, Nat.sub_zero, Nat.add_sub_cancel_left]
  generalize hN2 : setF N1 (a + 2) (fun i => if i < X.1 then N1 (a + 2) i * wtA Y Y.2.1 % 10007 else N1 (a + 2) i) = N2
  have q2' : frA N1 N2 (a + 2) (a + 3) := by
    subst hN2
    exact frA.set (by omega) (by omega)
  have q3 : ∀ i, i < X.1 + Y.1 → N2 (a + 2) i = (cauA X Y).2.2.1 i := by
    intro i hi
    subst hN2
    rw [setF_at]
    show (if i < X.1 then _ else _) = if i < X.1 then _ else _
    rw [(q2.2 i hi).2.1]
    show (if i < X.1 then (if i < X.1 then _ else _) * _ % 10007 else (if i < X.1 then _ else _)) = _
    by_cases e : i < X.1
    · simp only [if_pos e]
    · simp only [if_neg e]
  have hX2 := hX1.fr q2' (by omega)
  have hY2 := hY1.fr q2' (by omega)
  rw [s_empty k hX2 hx okX]
  simp (disch := omega) only [c_bnd, c_chk, c_lb0, c_lb1, c_lb2, c_lb3, L0, L1, L2, L10007, nI_add, pk_mul, ile_t, ile_f, ilt_t, ilt_f, ieq_t, ieq_f, c_rmI, setF_at, setF_ne, setF_setF, true_and, up1_at, up1_ne, pk_sub, pk_cpy_in, pk_cpy_out, Nat.zero_add, Nat.add_zero, Nat.zero_mul, Nat.sub_zero, Nat.add_sub_cancel_left]
  refine mx_lb0 (mx_for (fun c N' => frA N2 N' (a + 1) (a + 2) ∧ ∀ i, i < X.1 + Y.1 → N' (a + 1) i = if i < c then (cauA X Y).2.1 i else (sumA X Y).2.1 i) (e := X.1 + Y.1) (by omega) (by omega) ⟨frA.refl, ?_⟩ ?_ ?_) ?_
  · intro i hi
    rw [q2' (a + 1) (by omega), (q2.2 i hi).1]
    show (if i < X.1 then _ else _) = if i < X.1 then (if i < X.1 then _ else _) else if i < X.1 then _ else _
    by_cases e : i < X.1
    · simp only [if_pos e]
    · simp only [if_neg e]
  · intro c N3 hc1 hc2 ⟨p1, p2⟩
    have e2 : N3 a 0 = X.1 + Y.1 := by rw [p1 a (by omega), q2' a (by omega)]; exact q2.1
    have e3 := p2 c hc2
    rw [if_neg (Nat.lt_irrefl c)] at e3
    have e4 : (sumA X Y).2.1 c = Y.2.1 (c - X.1) := if_neg (by omega)
    have e5 := pmul (okY (c - X.1) (by omega)).1 (wtA_lt (A := X) (v := X.2.1))
    show Mx (f_X0_becomeCauchy_B32 _ _ _ _ _ _ _ _) _ _ _ _
    unfold f_X0_becomeCauchy_B32
    simp (disch := omega) only [c_bnd, c_chk, c_lb0, c_lb1, c_lb2, c_lb3, L0, L1, L2, L10007, nI_add, pk_mul, ile_t, ile_f, ilt_t, ilt_f, ieq_t, ieq_f, c_rmI, setF_at, setF_ne, setF_setF, true_and, up1_at, up1_ne, pk_sub, pk_cpy_in, pk_cpy_out, Nat.zero_add, Nat.add_zero, Nat.zero_mul, Nat.sub_zero, Nat.add_sub_cancel_left, c_gfI h.ob, c_pfI h.ob, c_gfR h.ob h.r1, c_gfR h.ob h.r2, c_gfR h.ob h.r3, c_ldI h.g1, c_ldI h.g2, c_stI h.g1, c_stI h.g2, c_chkO h.ob, e2, e3, e4]
    refine mx_eq rfl ?_
    refine ⟨p1.trans (frA.set (by omega) (by omega)), fun i hi => ?_⟩
    simp (disch := omega) only [c_bnd, c_chk, c_lb0, c_lb1, c_lb2, c_lb3, L0, L1, L2, L10007, nI_add, pk_mul, ile_t, ile_f, ilt_t, ilt_f, ieq_t, ieq_f, c_rmI, setF_at, setF_ne, setF_setF, true_and, up1_at, up1_ne, pk_sub, pk_cpy_in, pk_cpy_out, Nat.zero_add, Nat.add_zero, Nat.zero_mul, Nat.sub_zero, Nat.add_sub_cancel_left]
    by_cases e : i = c
    · subst e
      simp (disch := omega) only [c_bnd, c_chk, c_lb0, c_lb1, c_lb2, c_lb3, L0, L1, L2, L10007, nI_add, pk_mul, ile_t, ile_f, ilt_t, ilt_f, ieq_t, ieq_f, c_rmI, setF_at, setF_ne, setF_setF, true_and, up1_at, up1_ne, pk_sub, pk_cpy_in, pk_cpy_out, Nat.zero_add, Nat.add_zero, Nat.zero_mul, Nat.sub_zero, Nat.add_sub_cancel_left]
      rw [if_pos (by omega)]
      exact (if_neg (by omega)).symm
    · simp (disch := omega) only [c_bnd, c_chk, c_lb0, c_lb1, c_lb2, c_lb3, L0, L1, L2, L10007, nI_add, pk_mul, ile_t, ile_f, ilt_t, ilt_f, ieq_t, ieq_f, c_rmI, setF_at, setF_ne, setF_setF, true_and, up1_at, up1_ne, pk_sub, pk_cpy_in, pk_cpy_out, Nat.zero_add, Nat.add_zero, Nat.zero_mul, Nat.sub_zero, Nat.add_sub_cancel_left]
      rw [p2 i hi]
      by_cases e6 : i < c
      · rw [if_pos e6, if_pos (by omega)]
      · rw [if_neg e6, if_neg (by omega)]
  · intro N3 ⟨p1, p2⟩
    have e2 : N3 a 0 = X.1 + Y.1 := by rw [p1 a (by omega), q2' a (by omega)]; exact q2.1
    show f_X0_becomeCauchy_B32 _ _ _ _ _ _ _ _ = _
    unfold f_X0_becomeCauchy_B32
    simp (disch := omega) only [c_bnd, c_chk, c_lb0, c_lb1, c_lb2, c_lb3, L0, L1, L2, L10007, nI_add, pk_mul, ile_t, ile_f, ilt_t, ilt_f, ieq_t, ieq_f, c_rmI, setF_at, setF_ne, setF_setF, true_and, up1_at, up1_ne, pk_sub, pk_cpy_in, pk_cpy_out, Nat.zero_add, Nat.add_zero, Nat.zero_mul, Nat.sub_zero, Nat.add_sub_cancel_left, c_gfI h.ob, c_pfI h.ob, c_gfR h.ob h.r1, c_gfR h.ob h.r2, c_gfR h.ob h.r3, c_ldI h.g1, c_ldI h.g2, c_stI h.g1, c_stI h.g2, c_chkO h.ob, e2]
  · intro N3 ⟨p1, p2⟩
    have hX3 := hX2.fr p1 (by omega)
    have hY3 := hY2.fr p1 (by omega)
    have e2 : N3 a 0 = X.1 + Y.1 := by rw [p1 a (by omega), q2' a (by omega)]; exact q2.1
    -- which cells of a letter's matrix are right: (letter, row, columns)
    let D : Nat → Nat → Nat → Mem → Prop := fun l r c N' => frA N3 N' (a + 4) (a + 6) ∧ ∀ l' i j, l' < 2 → i < X.1 + Y.1 → j < X.1 + Y.1 → N' (a + 4 + l') (i * (X.1 + Y.1) + j) = if (i < X.1 ∧ X.1 ≤ j) ∧ (l' < l ∨ l' = l ∧ (i < r ∨ i = r ∧ j < X.1 + c)) then (cauA X Y).2.2.2 l' i j else (sumA X Y).2.2.2 l' i j
    have D0 : ∀ l r c l2 r2 c2 N', D l r c N' → (∀ l' i j, l' < 2 → i < X.1 + Y.1 → j < X.1 + Y.1 → ((i < X.1 ∧ X.1 ≤ j) ∧ (l' < l ∨ l' = l ∧ (i < r ∨ i = r ∧ j < X.1 + c)) ↔ (i < X.1 ∧ X.1 ≤ j) ∧ (l' < l2 ∨ l' = l2 ∧ (i < r2 ∨ i = r2 ∧ j < X.1 + c2)))) → D l2 r2 c2 N' := by
      intro l r c l2 r2 c2 N' hd hh
      refine ⟨hd.1, fun l' i j e1 e2 e3 => ?_⟩
      rw [hd.2 l' i j e1 e2 e3]
      simp only [hh l' i j e1 e2 e3]
    refine mx_lb0 (mx_for (fun l N' => D l 0 0 N') (e := 2) (by omega) (by omega) ⟨frA.refl, ?_⟩ ?_ ?_) ?_
    · intro l' i j e4 e5 e6
      rw [if_neg (by omega), p1 (a + 4 + l') (by omega), q2' (a + 4 + l') (by omega)]
      exact (q2.2 i e5).2.2 j l' e6 e4
    · intro l N4 _ hl r1
      show Mx (f_X0_becomeCauchy_B71 _ _ _ _ _ _ _) _ _ _ _
      unfold f_X0_becomeCauchy_B71
      simp (disch := omega) only [c_bnd, c_chk, c_lb0, c_lb1, c_lb2, c_lb3, L0, L1, L2, L10007, nI_add, pk_mul, ile_t, ile_f, ilt_t, ilt_f, ieq_t, ieq_f, c_rmI, setF_at, setF_ne, setF_setF, true_and, up1_at, up1_ne, pk_sub, pk_cpy_in, pk_cpy_out, Nat.zero_add, Nat.add_zero, Nat.zero_mul, Nat.sub_zero, Nat.add_sub_cancel_left]
      refine mx_lb0 (mx_for (fun r N' => D l r 0 N') (e := X.1) (by omega) (by omega) r1 ?_ ?_) ?_
      · intro r N5 _ hr r2
        have hX5 := hX3.fr r2.1 (by omega)
        have hY5 := hY3.fr r2.1 (by omega)
        show Mx (f_X0_becomeCauchy_B80 _ _ _ _ _ _ _ _) _ _ _ _
        unfold f_X0_becomeCauchy_B80
        simp (disch := omega) only [c_bnd, c_chk, c_lb0, c_lb1, c_lb2, c_lb3, L0, L1, L2, L10007, nI_add, pk_mul, ile_t, ile_f, ilt_t, ilt_f, ieq_t, ieq_f, c_rmI, setF_at, setF_ne, setF_setF, true_and, up1_at, up1_ne, pk_sub, pk_cpy_in, pk_cpy_out, Nat.zero_add, Nat.add_zero, Nat.zero_mul, Nat.sub_zero, Nat.add_sub_cancel_left, c_gfI k.ob, c_pfI k.ob, c_gfR k.ob k.r1, c_gfR k.ob k.r2, c_gfR k.ob k.r3, c_ldI k.g1, c_ldI k.g2, c_stI k.g1, c_stI k.g2, c_chkO k.ob, s_out k hX5 hx okX hl hr]
        refine mx_lb0 (mx_for (fun c N' => D l r c N') (e := Y.1) (by omega) (by omega) r2 ?_ ?_) ?_
        · intro c N6 _ hcc r3
          have hY6 := hY3.fr r3.1 (by omega)
          have e7 := hY6.1
          have e8 := (hY6.2 c hcc).1
          have e9 : N6 a 0 = X.1 + Y.1 := by rw [r3.1 a (by omega)]; exact e2
          have e10 := pmul (outA_lt (A := X) (l := l) (i := r)) (okY c hcc).1
          have e11 : r * (X.1 + Y.1) + X.1 + c < cap * cap := by
            have := ix_lt (i := r) (j := X.1 + c) hc (by omega) (by omega)
            omega
          show Mx (f_X0_becomeCauchy_B99 _ _ _ _ _ _ _ _ _ _) _ _ _ _
          unfold f_X0_becomeCauchy_B99
          simp (disch := omega) only [c_bnd, c_chk, c_lb0, c_lb1, c_lb2, c_lb3, L0, L1, L2, L10007, nI_add, pk_mul, ile_t, ile_f, ilt_t, ilt_f, ieq_t, ieq_f, c_rmI, setF_at, setF_ne, setF_setF, true_and, up1_at, up1_ne, pk_sub, pk_cpy_in, pk_cpy_out, Nat.zero_add, Nat.add_zero, Nat.zero_mul, Nat.sub_zero, Nat.add_sub_cancel_left, c_gfI h.ob, c_pfI h.ob, c_gfR h.ob h.r1, c_gfR h.ob h.r2, c_gfR h.ob h.r3, c_ldI h.g1, c_ldI h.g2, c_stI h.g1, c_stI h.g2, c_chkO h.ob, c_gfI k'.ob, c_pfI k'.ob, c_gfR k'.ob k'.r1, c_gfR k'.ob k'.r2, c_gfR k'.ob k'.r3, c_ldI k'.g1, c_ldI k'.g2, c_stI k'.g1, c_stI k'.g2, c_chkO k'.ob, c_ldG h.g3 (h.rl hl), c_ldI (h.gl hl), c_stI (h.gl hl), e7, e8, e9]
          refine mx_eq rfl ?_
          refine ⟨r3.1.trans (frA.set (by omega) (by omega)), fun l' i j f1 f2 f3 => ?_⟩
          have := r3.2 l' i j f1 f2 f3
          by_cases g1 : l' = l
          · subst g1
            simp (disch := omega) only [c_bnd, c_chk, c_lb0, c_lb1, c_lb2, c_lb3, L0, L1, L2, L10007, nI_add, pk_mul, ile_t, ile_f, ilt_t, ilt_f, ieq_t, ieq_f, c_rmI, setF_at, setF_ne, setF_setF, true_and, up1_at, up1_ne, pk_sub, pk_cpy_in, pk_cpy_out, Nat.zero_add, Nat.add_zero, Nat.zero_mul, Nat.sub_zero, Nat.add_sub_cancel_left]
            by_cases g2 : i = r ∧ j = X.1 + c
            · obtain ⟨rfl, rfl⟩ := g2
              rw [show i * (X.1 + Y.1) + X.1 + c = i * (X.1 + Y.1) + (X.1 + c) from Nat.add_assoc _ _ _, up1_at, if_pos (by omega)]
              show _ = if i < X.1 ∧ X.1 + c < X.1 then _ else if X.1 ≤ i ∧ X.1 ≤ X.1 + c then _ else if i < X.1 then _ else _
              rw [if_neg (by omega), if_neg (by omega), if_pos (by omega), Nat.add_sub_cancel_left]
            · rw [up1_ne (fun e => g2 (ix_inj (by omega : i * (X.1 + Y.1) + j = r * (X.1 + Y.1) + (X.1 + c)) f3 (by omega))), this]
              by_cases g3 : (i < X.1 ∧ X.1 ≤ j) ∧ (l' < l' ∨ l' = l' ∧ (i < r ∨ i = r ∧ j < X.1 + c))
              · rw [if_pos g3, if_pos (by omega)]
              · rw [if_neg g3, if_neg (by omega)]
          · simp (disch := omega) only [c_bnd, c_chk, c_lb0, c_lb1, c_lb2, c_lb3, L0, L1, L2, L10007, nI_add, pk_mul, ile_t, ile_f, ilt_t, ilt_f, ieq_t, ieq_f, c_rmI, setF_at, setF_ne, setF_setF, true_and, up1_at, up1_ne, pk_sub, pk_cpy_in, pk_cpy_out, Nat.zero_add, Nat.add_zero, Nat.zero_mul, Nat.sub_zero, Nat.add_sub_cancel_left]
            rw [this]
            by_cases g3 : (i < X.1 ∧ X.1 ≤ j) ∧ (l' < l ∨ l' = l ∧ (i < r ∨ i = r ∧ j < X.1 + c))
            · rw [if_pos g3, if_pos (by omega)]
            · rw [if_neg g3, if_neg (by omega)]
        · intro N6 r3
          have e7 := (hY3.fr r3.1 (by omega)).1
          show f_X0_becomeCauchy_B99 _ _ _ _ _ _ _ _ _ _ = _
          unfold f_X0_becomeCauchy_B99
          simp (disch := omega) only [c_bnd, c_chk, c_lb0, c_lb1, c_lb2, c_lb3, L0, L1, L2, L10007, nI_add, pk_mul, ile_t, ile_f, ilt_t, ilt_f, ieq_t, ieq_f, c_rmI, setF_at, setF_ne, setF_setF, true_and, up1_at, up1_ne, pk_sub, pk_cpy_in, pk_cpy_out, Nat.zero_add, Nat.add_zero, Nat.zero_mul, Nat.sub_zero, Nat.add_sub_cancel_left, c_gfI k'.ob, c_pfI k'.ob, c_gfR k'.ob k'.r1, c_gfR k'.ob k'.r2, c_gfR k'.ob k'.r3, c_ldI k'.g1, c_ldI k'.g2, c_stI k'.g1, c_stI k'.g2, c_chkO k'.ob, e7]
        · intro N6 r3
          refine mx_eq rfl ?_
          exact D0 _ _ _ _ _ _ _ r3 (fun l' i j _ _ _ => by omega)
      · intro N5 r2
        show f_X0_becomeCauchy_B80 _ _ _ _ _ _ _ _ = _
        unfold f_X0_becomeCauchy_B80
        simp (disch := omega) only [c_bnd, c_chk, c_lb0, c_lb1, c_lb2, c_lb3, L0, L1, L2, L10007, nI_add, pk_mul, ile_t, ile_f, ilt_t, ilt_f, ieq_t, ieq_f, c_rmI, setF_at, setF_ne, setF_setF, true_and, up1_at, up1_ne, pk_sub, pk_cpy_in, pk_cpy_out, Nat.zero_add, Nat.add_zero, Nat.zero_mul, Nat.sub_zero, Nat.add_sub_cancel_left]
      · intro N5 r2
        refine mx_eq rfl ?_
        exact D0 _ _ _ _ _ _ _ r2 (fun l' i j _ _ _ => by omega)
    · intro N4 r1
      show f_X0_becomeCauchy_B71 _ _ _ _ _ _ _ = _
      unfold f_X0_becomeCauchy_B71
      simp (disch := omega) only [c_bnd, c_chk, c_lb0, c_lb1, c_lb2, c_lb3, L0, L1, L2, L10007, nI_add, pk_mul, ile_t, ile_f, ilt_t, ilt_f, ieq_t, ieq_f, c_rmI, setF_at, setF_ne, setF_setF, true_and, up1_at, up1_ne, pk_sub, pk_cpy_in, pk_cpy_out, Nat.zero_add, Nat.add_zero, Nat.zero_mul, Nat.sub_zero, Nat.add_sub_cancel_left]
    · intro N4 r1
      refine mx_eq rfl ?_
      refine ⟨(q1.trans (q2'.mono (by omega) (by omega))).trans ((p1.mono (by omega) (by omega)).trans (r1.1.mono (by omega) (by omega))), ?_, fun i hi => ⟨?_, ?_, fun j l hj hl => ?_⟩⟩
      · rw [r1.1 a (by omega)]; exact e2
      · have hi' : i < X.1 + Y.1 := hi
        rw [r1.1 (a + 1) (by omega), p2 i hi, if_pos hi']
      · rw [r1.1 (a + 2) (by omega), p1 (a + 2) (by omega)]; exact q3 i hi
      · refine (r1.2 l i j hl hi hj).trans ?_
        show (if _ then _ else if i < X.1 ∧ j < X.1 then _ else if X.1 ≤ i ∧ X.1 ≤ j then _ else _) = if i < X.1 ∧ j < X.1 then _ else if X.1 ≤ i ∧ X.1 ≤ j then _ else if i < X.1 then _ else _
        by_cases e4 : i < X.1 ∧ X.1 ≤ j
        · rw [if_pos (by omega)]
          rfl
        · rw [if_neg (by omega)]
          by_cases e5 : i < X.1 ∧ j < X.1
          · rw [if_pos e5, if_pos e5]
          · rw [if_neg e5, if_neg e5]
            by_cases e6 : X.1 ≤ i ∧ X.1 ≤ j
            · rw [if_pos e6, if_pos e6]
            · rw [if_neg e6, if_neg e6, if_neg (by omega)]
end CD
