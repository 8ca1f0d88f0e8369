/-! ===== the class's automata: star, hash ===== -/
section CH
variable {Γ : zSh} {N : Mem} {R : Nat → Nat → Nat} {J : Nat → Nat → Int64} {a x y cap cx cy n t m l : Nat} {A X Y : Au}
theorem ix0 {n j : Nat} : 0 * n + j = j := by rw [Nat.zero_mul, Nat.zero_add]
theorem staA_0j {X : Au} {l c : Nat} : (staA X).2.2.2 l 0 (1 + c) = intA X l c := by
  show (if 0 = 0 then (if 1 + c = 0 then nsum X.1 (fun k => X.2.1 k * outA X l k) % 10007 else intA X l (1 + c - 1)) else if 1 + c = 0 then outA X l (0 - 1) else X.2.2.2 l (0 - 1) (1 + c - 1)) = _
  rw [if_pos rfl, if_neg (by omega), Nat.add_sub_cancel_left]
theorem staA_i0 {X : Au} {l c : Nat} : (staA X).2.2.2 l (1 + c) 0 = outA X l c := by
  show (if 1 + c = 0 then (if 0 = 0 then nsum X.1 (fun k => X.2.1 k * outA X l k) % 10007 else intA X l (0 - 1)) else if 0 = 0 then outA X l (1 + c - 1) else X.2.2.2 l (1 + c - 1) (0 - 1)) = _
  rw [if_neg (by omega), if_pos rfl, Nat.add_sub_cancel_left]
theorem s_star (h : auS Γ R a cap) (k : auS Γ R x cx) (d : a + 6 ≤ x ∨ x + 6 ≤ a) (hX : cAu N x X) (hx : X.1 ≤ cx) (hc : X.1 + 1 ≤ cap) (okX : okA X) : Mx (f_X0_becomeStar Γ a x (cS N R J)) (fun σ => ((), σ)) R J (fun N' => frA N N' a (a + 6) ∧ cAu N' a (staA X)) := by
  have hc24 := h.c24
  have hc24' := k.c24
  have hsq := h.sq'
  have ha := h.a0
  have hnn := sq_le hc
  have e0 := hX.1
  unfold f_X0_becomeStar
  simp (disch := omega) only [c_bnd, c_chk, c_lb0, c_lb1, c_lb2, c_lb3, L0, L1, L2, L10007, nI_add, pk_mul, ile_t, ile_f, ilt_t, ilt_f, ieq_t, ieq_f, c_rmI, setF_at, setF_ne, setF_setF, true_and, up1_at, up1_ne, pk_sub, pk_cpy_in, pk_cpy_out, Nat.zero_add, Nat.add_zero, Nat.zero_mul, Nat.sub_zero, Nat.add_sub_cancel_left, c_gfI h.ob, c_pfI h.ob, c_gfR h.ob h.r1, c_gfR h.ob h.r2, c_gfR h.ob h.r3, c_ldI h.g1, c_ldI h.g2, c_stI h.g1, c_stI h.g2, c_chkO h.ob, c_gfI k.ob, c_pfI k.ob, c_gfR k.ob k.r1, c_gfR k.ob k.r2, c_gfR k.ob k.r3, c_ldI k.g1, c_ldI k.g2, c_stI k.g1, c_stI k.g2, c_chkO k.ob, e0]
  refine mx_bnd (s_clear h hc) ?_
  intro N1 ⟨q1, q2, q3, q4⟩
  have hX1 := hX.fr q1 d.symm
  refine mx_bnd (s_place h k d hX1 hx q2 hc (by omega)) ?_
  intro N2 ⟨p1, p2, p3, p4⟩
  have hX2 := hX1.fr p1 d.symm
  simp (disch := omega) only [c_bnd, c_chk, c_lb0, c_lb1, c_lb2, c_lb3, L0, L1, L2, L10007, nI_add, pk_mul, ile_t, ile_f, ilt_t, ilt_f, ieq_t, ieq_f, c_rmI, setF_at, setF_ne, setF_setF, true_and, up1_at, up1_ne, pk_sub, pk_cpy_in, pk_cpy_out, Nat.zero_add, Nat.add_zero, Nat.zero_mul, Nat.sub_zero, Nat.add_sub_cancel_left, c_gfI h.ob, c_pfI h.ob, c_gfR h.ob h.r1, c_gfR h.ob h.r2, c_gfR h.ob h.r3, c_ldI h.g1, c_ldI h.g2, c_stI h.g1, c_stI h.g2, c_chkO h.ob, p2, s_fill h.g1, s_fill h.g2]
  generalize hN3 : setF _ (a + 2) _ = N3
  have r1 : frA N2 N3 a (a + 6) := by
    subst hN3
    exact ((frA.set (by omega) (by omega)).trans (frA.set (by omega) (by omega))).trans ((frA.set (by omega) (by omega)).trans (frA.set (by omega) (by omega)))
  have r2 : N3 a 0 = X.1 + 1 := by
    subst hN3
    simp (disch := omega) only [c_bnd, c_chk, c_lb0, c_lb1, c_lb2, c_lb3, L0, L1, L2, L10007, nI_add, pk_mul, ile_t, ile_f, ilt_t, ilt_f, ieq_t, ieq_f, c_rmI, setF_at, setF_ne, setF_setF, true_and, up1_at, up1_ne, pk_sub, pk_cpy_in, pk_cpy_out, Nat.zero_add, Nat.add_zero, Nat.zero_mul, Nat.sub_zero, Nat.add_sub_cancel_left, p2]
  have r3 : ∀ i, i < X.1 + 1 → N3 (a + 1) i = (staA X).2.1 i ∧ N3 (a + 2) i = (staA X).2.2.1 i := by
    intro i hi
    subst hN3
    show _ = (if i = 0 then 1 else 0) ∧ _ = if i = 0 then 1 else 0
    by_cases e : i = 0
    · subst e
      simp (disch := omega) only [c_bnd, c_chk, c_lb0, c_lb1, c_lb2, c_lb3, L0, L1, L2, L10007, nI_add, pk_mul, ile_t, ile_f, ilt_t, ilt_f, ieq_t, ieq_f, c_rmI, setF_at, setF_ne, setF_setF, true_and, up1_at, up1_ne, pk_sub, pk_cpy_in, pk_cpy_out, Nat.zero_add, Nat.add_zero, Nat.zero_mul, Nat.sub_zero, Nat.add_sub_cancel_left, if_true, and_self]
    · simp (disch := omega) only [c_bnd, c_chk, c_lb0, c_lb1, c_lb2, c_lb3, L0, L1, L2, L10007, nI_add, pk_mul, ile_t, ile_f, ilt_t, ilt_f, ieq_t, ieq_f, c_rmI, setF_at, setF_ne, setF_setF, true_and, up1_at, up1_ne, pk_sub, pk_cpy_in, pk_cpy_out, Nat.zero_add, Nat.add_zero, Nat.zero_mul, Nat.sub_zero, Nat.add_sub_cancel_left, if_neg e, if_pos (And.intro (Nat.zero_le i) hi), and_self]
  have r4 : ∀ l i j, l < 2 → i < X.1 + 1 → j < X.1 + 1 → (1 ≤ i ∧ 1 ≤ j) → N3 (a + 4 + l) (i * (X.1 + 1) + j) = (staA X).2.2.2 l i j := by
    intro l i j hl hi hj hij
    have e : N3 (a + 4 + l) = N2 (a + 4 + l) := by
      subst hN3
      simp (disch := omega) only [c_bnd, c_chk, c_lb0, c_lb1, c_lb2, c_lb3, L0, L1, L2, L10007, nI_add, pk_mul, ile_t, ile_f, ilt_t, ilt_f, ieq_t, ieq_f, c_rmI, setF_at, setF_ne, setF_setF, true_and, up1_at, up1_ne, pk_sub, pk_cpy_in, pk_cpy_out, Nat.zero_add, Nat.add_zero, Nat.zero_mul, Nat.sub_zero, Nat.add_sub_cancel_left]
    rw [e, p4 l i j hl hi hj, if_pos (by omega)]
    show _ = if i = 0 then _ else if j = 0 then _ else _
    rw [if_neg (by omega), if_neg (by omega)]
  clear hN3
  have hX3 := hX2.fr r1 d.symm
  let D : (Nat → Nat → Nat → Prop) → Mem → Prop := fun p N' => frA N3 N' (a + 4) (a + 6) ∧ ∀ l i j, l < 2 → i < X.1 + 1 → j < X.1 + 1 → (1 ≤ i ∧ 1 ≤ j) ∨ p l i j → N' (a + 4 + l) (i * (X.1 + 1) + j) = (staA X).2.2.2 l i j
  have D0 : ∀ p p' N', D p N' → (∀ l i j, l < 2 → i < X.1 + 1 → j < X.1 + 1 → p' l i j → (1 ≤ i ∧ 1 ≤ j) ∨ p l i j) → D p' N' := by
    intro p p' N' hd h2
    refine ⟨hd.1, fun l i j f1 f2 f3 f4 => hd.2 l i j f1 f2 f3 ?_⟩
    rcases f4 with f4 | f4
    · exact Or.inl f4
    · exact h2 l i j f1 f2 f3 f4
  refine mx_lb0 (mx_for (fun l N' => D (fun l' _ _ => l' < l) N') (s := 0) (e := 2) (by omega) (by omega) ⟨frA.refl, fun l i j f1 f2 f3 f4 => r4 l i j f1 f2 f3 (by omega)⟩ ?_ ?_) ?_
  · intro l N4 _ hl t1
    show Mx (f_X0_becomeStar_B58 _ _ _ _ _) _ _ _ _
    unfold f_X0_becomeStar_B58
    simp (disch := omega) only [c_bnd, c_chk, c_lb0, c_lb1, c_lb2, c_lb3, L0, L1, L2, L10007, nI_add, pk_mul, ile_t, ile_f, ilt_t, ilt_f, ieq_t, ieq_f, c_rmI, setF_at, setF_ne, setF_setF, true_and, up1_at, up1_ne, pk_sub, pk_cpy_in, pk_cpy_out, Nat.zero_add, Nat.add_zero, Nat.zero_mul, Nat.sub_zero, Nat.add_sub_cancel_left]
    refine mx_lb1 (mx_for1 (fun c => nI (nsum c (fun k => X.2.1 k * outA X l k) % 10007)) (fun c N' => D (fun l' i j => l' < l ∨ l' = l ∧ (i = 0 ∧ 1 ≤ j ∧ j < c + 1 ∨ j = 0 ∧ 1 ≤ i ∧ i < c + 1)) N') (s := 0) (e := X.1) (by omega) (by omega) (D0 _ _ _ t1 (fun l' i j _ _ _ f => by omega)) ?_ ?_) ?_
    · intro c N5 _ hcc t2
      have hX5 := hX3.fr t2.1 (by omega)
      have f0 : N5 a 0 = X.1 + 1 := by rw [t2.1 a (by omega)]; exact r2
      have f1 := hX5.1
      have f2 := (hX5.2 c hcc).1
      have f3 := pmul (okX c hcc).1 (outA_lt (A := X) (l := l) (i := c))
      have f4 := mlt (nsum c (fun k => X.2.1 k * outA X l k))
      have f5 : (1 + c) * (X.1 + 1) < cap * cap := by
        have := ix_lt (i := 1 + c) (j := 0) hc (by omega) (by omega)
        omega
      have f6 : 1 + c < cap * cap := by
        have := ix_lt (i := 0) (j := 1 + c) hc (by omega) (by omega)
        omega
      have f7 : f_X0_initialThenStep Γ x (nI l) (nI c) (cS (setF N5 (a + 4 + l) (up1 (N5 (a + 4 + l)) ((1 + c) * (X.1 + 1)) (outA X l c))) R J) = some (nI (intA X l c), _) := s_int k (hX5.fr (frA.set (Nat.le_refl (a + 4 + l)) (Nat.lt_succ_self _)) (by omega)) hx okX hl hcc
      show Mx (f_X0_becomeStar_B68 _ _ _ _ _ _ _) _ _ _ _
      unfold f_X0_becomeStar_B68
      simp (disch := omega) only [c_bnd, c_chk, c_lb0, c_lb1, c_lb2, c_lb3, L0, L1, L2, L10007, nI_add, pk_mul, ile_t, ile_f, ilt_t, ilt_f, ieq_t, ieq_f, c_rmI, setF_at, setF_ne, setF_setF, true_and, up1_at, up1_ne, pk_sub, pk_cpy_in, pk_cpy_out, Nat.zero_add, Nat.add_zero, Nat.zero_mul, Nat.sub_zero, Nat.add_sub_cancel_left, c_gfI h.ob, c_pfI h.ob, c_gfR h.ob h.r1, c_gfR h.ob h.r2, c_gfR h.ob h.r3, c_ldI h.g1, c_ldI h.g2, c_stI h.g1, c_stI h.g2, c_chkO h.ob, c_gfI k.ob, c_pfI k.ob, c_gfR k.ob k.r1, c_gfR k.ob k.r2, c_gfR k.ob k.r3, c_ldI k.g1, c_ldI k.g2, c_stI k.g1, c_stI k.g2, c_chkO k.ob, c_ldG h.g3 (h.rl hl), c_ldI (h.gl hl), c_stI (h.gl hl), f0, f1, f2, s_out k hX5 hx okX hl hcc, f7, mod_acc]
      refine mx_eq rfl ?_
      refine ⟨t2.1.trans (frA.set (by omega) (by omega)), fun l' i j g1 g2 g3 g4 => ?_⟩
      by_cases g5 : l' = l
      · subst g5
        simp (disch := omega) only [c_bnd, c_chk, c_lb0, c_lb1, c_lb2, c_lb3, L0, L1, L2, L10007, nI_add, pk_mul, ile_t, ile_f, ilt_t, ilt_f, ieq_t, ieq_f, c_rmI, setF_at, setF_ne, setF_setF, true_and, up1_at, up1_ne, pk_sub, pk_cpy_in, pk_cpy_out, Nat.zero_add, Nat.add_zero, Nat.zero_mul, Nat.sub_zero, Nat.add_sub_cancel_left]
        by_cases g6 : i = 0 ∧ j = 1 + c
        · obtain ⟨rfl, rfl⟩ := g6
          rw [ix0, up1_at, staA_0j]
        · have g7 : i * (X.1 + 1) + j ≠ 1 + c := fun e => by
            have := ix_inj (i := i) (j := j) (i' := 0) (j' := 1 + c) (n := X.1 + 1) (by rw [ix0]; exact e) g3 (by omega)
            exact g6 this
          rw [up1_ne g7]
          by_cases g8 : i = 1 + c ∧ j = 0
          · obtain ⟨rfl, rfl⟩ := g8
            rw [Nat.add_zero ((1 + c) * (X.1 + 1)), up1_at, staA_i0]
          · have g9 : i * (X.1 + 1) + j ≠ (1 + c) * (X.1 + 1) := fun e => by
              have := ix_inj (i := i) (j := j) (i' := 1 + c) (j' := 0) (n := X.1 + 1) (by rw [Nat.add_zero]; exact e) g3 (by omega)
              exact g8 this
            rw [up1_ne g9]
            exact t2.2 l' i j g1 g2 g3 (by omega)
      · simp (disch := omega) only [c_bnd, c_chk, c_lb0, c_lb1, c_lb2, c_lb3, L0, L1, L2, L10007, nI_add, pk_mul, ile_t, ile_f, ilt_t, ilt_f, ieq_t, ieq_f, c_rmI, setF_at, setF_ne, setF_setF, true_and, up1_at, up1_ne, pk_sub, pk_cpy_in, pk_cpy_out, Nat.zero_add, Nat.add_zero, Nat.zero_mul, Nat.sub_zero, Nat.add_sub_cancel_left]
        exact t2.2 l' i j g1 g2 g3 (by omega)
    · intro N5 t2
      have f1 := (hX3.fr t2.1 (by omega)).1
      show f_X0_becomeStar_B68 _ _ _ _ _ _ _ = _
      unfold f_X0_becomeStar_B68
      simp (disch := omega) only [c_bnd, c_chk, c_lb0, c_lb1, c_lb2, c_lb3, L0, L1, L2, L10007, nI_add, pk_mul, ile_t, ile_f, ilt_t, ilt_f, ieq_t, ieq_f, c_rmI, setF_at, setF_ne, setF_setF, true_and, up1_at, up1_ne, pk_sub, pk_cpy_in, pk_cpy_out, Nat.zero_add, Nat.add_zero, Nat.zero_mul, Nat.sub_zero, Nat.add_sub_cancel_left, c_gfI k.ob, c_pfI k.ob, c_gfR k.ob k.r1, c_gfR k.ob k.r2, c_gfR k.ob k.r3, c_ldI k.g1, c_ldI k.g2, c_stI k.g1, c_stI k.g2, c_chkO k.ob, f1]
    · intro N5 t2
      have f5 : 0 < cap * cap := by
        have := ix_lt (i := 0) (j := 0) hc (by omega) (by omega)
        omega
      simp (disch := omega) only [c_bnd, c_chk, c_lb0, c_lb1, c_lb2, c_lb3, L0, L1, L2, L10007, nI_add, pk_mul, ile_t, ile_f, ilt_t, ilt_f, ieq_t, ieq_f, c_rmI, setF_at, setF_ne, setF_setF, true_and, up1_at, up1_ne, pk_sub, pk_cpy_in, pk_cpy_out, Nat.zero_add, Nat.add_zero, Nat.zero_mul, Nat.sub_zero, Nat.add_sub_cancel_left, c_gfI h.ob, c_pfI h.ob, c_gfR h.ob h.r1, c_gfR h.ob h.r2, c_gfR h.ob h.r3, c_ldI h.g1, c_ldI h.g2, c_stI h.g1, c_stI h.g2, c_chkO h.ob, c_ldG h.g3 (h.rl hl), c_ldI (h.gl hl), c_stI (h.gl hl)]
      refine mx_eq rfl ?_
      refine ⟨t2.1.trans (frA.set (by omega) (by omega)), fun l' i j g1 g2 g3 g4 => ?_⟩
      by_cases g5 : l' = l
      · subst g5
        simp (disch := omega) only [c_bnd, c_chk, c_lb0, c_lb1, c_lb2, c_lb3, L0, L1, L2, L10007, nI_add, pk_mul, ile_t, ile_f, ilt_t, ilt_f, ieq_t, ieq_f, c_rmI, setF_at, setF_ne, setF_setF, true_and, up1_at, up1_ne, pk_sub, pk_cpy_in, pk_cpy_out, Nat.zero_add, Nat.add_zero, Nat.zero_mul, Nat.sub_zero, Nat.add_sub_cancel_left]
        by_cases g6 : i = 0 ∧ j = 0
        · obtain ⟨rfl, rfl⟩ := g6
          rw [ix0, up1_at]
          rfl
        · have g7 : i * (X.1 + 1) + j ≠ 0 := fun e => by
            have := ix_inj (i := i) (j := j) (i' := 0) (j' := 0) (n := X.1 + 1) (by rw [ix0]; exact e) g3 (by omega)
            exact g6 this
          rw [up1_ne g7]
          exact t2.2 l' i j g1 g2 g3 (by omega)
      · simp (disch := omega) only [c_bnd, c_chk, c_lb0, c_lb1, c_lb2, c_lb3, L0, L1, L2, L10007, nI_add, pk_mul, ile_t, ile_f, ilt_t, ilt_f, ieq_t, ieq_f, c_rmI, setF_at, setF_ne, setF_setF, true_and, up1_at, up1_ne, pk_sub, pk_cpy_in, pk_cpy_out, Nat.zero_add, Nat.add_zero, Nat.zero_mul, Nat.sub_zero, Nat.add_sub_cancel_left]
        exact t2.2 l' i j g1 g2 g3 (by omega)
  · intro N4 _
    show f_X0_becomeStar_B58 _ _ _ _ _ = _
    unfold f_X0_becomeStar_B58
    simp (disch := omega) only [c_bnd, c_chk, c_lb0, c_lb1, c_lb2, c_lb3, L0, L1, L2, L10007, nI_add, pk_mul, ile_t, ile_f, ilt_t, ilt_f, ieq_t, ieq_f, c_rmI, setF_at, setF_ne, setF_setF, true_and, up1_at, up1_ne, pk_sub, pk_cpy_in, pk_cpy_out, Nat.zero_add, Nat.add_zero, Nat.zero_mul, Nat.sub_zero, Nat.add_sub_cancel_left]
  · intro N4 t1
    refine mx_eq rfl ?_
    refine ⟨(q1.trans p1).trans (r1.trans (t1.1.mono (by omega) (by omega))), ?_, fun i hi => ⟨?_, ?_, fun j l hj hl => ?_⟩⟩
    · rw [t1.1 a (by omega)]; exact r2
    · rw [t1.1 (a + 1) (by omega)]; exact (r3 i hi).1
    · rw [t1.1 (a + 2) (by omega)]; exact (r3 i hi).2
    · exact t1.2 l i j hl hi hj (Or.inr hl)
theorem s_hash (h : auS Γ R a cap) (hA : cAu N a A) (hc : A.1 ≤ cap) {w : Int64} : f_X0_hash Γ a w (cS N R J) = some (hM A w (2 * (A.1 * A.1)), cS N R J) := by
  have hc24 := h.c24
  have hsq := h.sq'
  have ha := h.a0
  have hnn := sq_le hc
  have e0 := hA.1
  unfold f_X0_hash
  simp (disch := omega) only [c_bnd, c_chk, c_lb0, c_lb1, c_lb2, c_lb3, L0, L1, L2, L10007, nI_add, pk_mul, ile_t, ile_f, ilt_t, ilt_f, ieq_t, ieq_f, c_rmI, setF_at, setF_ne, setF_setF, true_and, up1_at, up1_ne, pk_sub, pk_cpy_in, pk_cpy_out, Nat.zero_add, Nat.add_zero, Nat.zero_mul, Nat.sub_zero, Nat.add_sub_cancel_left, c_gfI h.ob, c_pfI h.ob, c_gfR h.ob h.r1, c_gfR h.ob h.r2, c_gfR h.ob h.r3, c_ldI h.g1, c_ldI h.g2, c_stI h.g1, c_stI h.g2, c_chkO h.ob, e0]
  refine (lb1_of (loop_for (fun k => (hI A w k, nI k, cS N R J)) (hI A w A.1, cS N R J) A.1 rfl (by unfold FUEL; omega) ?_ ?_)).trans ?_
  · intro k hk
    have e1 := (hA.2 k hk).1
    have e2 := (hA.2 k hk).2.1
    show f_X0_hash_B15 _ _ _ _ _ = _
    unfold f_X0_hash_B15
    simp (disch := omega) only [c_bnd, c_chk, c_lb0, c_lb1, c_lb2, c_lb3, L0, L1, L2, L10007, nI_add, pk_mul, ile_t, ile_f, ilt_t, ilt_f, ieq_t, ieq_f, c_rmI, setF_at, setF_ne, setF_setF, true_and, up1_at, up1_ne, pk_sub, pk_cpy_in, pk_cpy_out, Nat.zero_add, Nat.add_zero, Nat.zero_mul, Nat.sub_zero, Nat.add_sub_cancel_left, c_gfI h.ob, c_pfI h.ob, c_gfR h.ob h.r1, c_gfR h.ob h.r2, c_gfR h.ob h.r3, c_ldI h.g1, c_ldI h.g2, c_stI h.g1, c_stI h.g2, c_chkO h.ob, e0, e1, e2]
    rfl
  · show f_X0_hash_B15 _ _ _ _ _ = _
    unfold f_X0_hash_B15
    simp (disch := omega) only [c_bnd, c_chk, c_lb0, c_lb1, c_lb2, c_lb3, L0, L1, L2, L10007, nI_add, pk_mul, ile_t, ile_f, ilt_t, ilt_f, ieq_t, ieq_f, c_rmI, setF_at, setF_ne, setF_setF, true_and, up1_at, up1_ne, pk_sub, pk_cpy_in, pk_cpy_out, Nat.zero_add, Nat.add_zero, Nat.zero_mul, Nat.sub_zero, Nat.add_sub_cancel_left, c_gfI h.ob, c_pfI h.ob, c_gfR h.ob h.r1, c_gfR h.ob h.r2, c_gfR h.ob h.r3, c_ldI h.g1, c_ldI h.g2, c_stI h.g1, c_stI h.g2, c_chkO h.ob, e0]
  · refine (lb1_of (loop_for (fun l => (hM A w (l * (A.1 * A.1)), nI l, cS N R J)) (hM A w (2 * (A.1 * A.1)), cS N R J) 2 (by rw [Nat.zero_mul]; rfl) (by unfold FUEL; omega) ?_ ?_)).trans rfl
    · intro l hl
      show f_X0_hash_B63 _ _ _ _ _ = _
      unfold f_X0_hash_B63
      simp (disch := omega) only [c_bnd, c_chk, c_lb0, c_lb1, c_lb2, c_lb3, L0, L1, L2, L10007, nI_add, pk_mul, ile_t, ile_f, ilt_t, ilt_f, ieq_t, ieq_f, c_rmI, setF_at, setF_ne, setF_setF, true_and, up1_at, up1_ne, pk_sub, pk_cpy_in, pk_cpy_out, Nat.zero_add, Nat.add_zero, Nat.zero_mul, Nat.sub_zero, Nat.add_sub_cancel_left]
      refine (lb1_of (loop_for (fun k => (hM A w (l * (A.1 * A.1) + k), nI k, cS N R J)) (hM A w ((l + 1) * (A.1 * A.1)), cS N R J) (A.1 * A.1) rfl (by unfold FUEL; omega) ?_ ?_)).trans rfl
      · intro k hk
        obtain ⟨f1, f2, f3⟩ := dvm' hk
        have e1 := (hA.2 (k / A.1) f1).2.2 (k % A.1) l f2 hl
        rw [Nat.mul_comm (k / A.1), f3] at e1
        have e2 : (l * (A.1 * A.1) + k) / (A.1 * A.1) = l := by
          rw [Nat.mul_comm l]; exact (dvm (i := l) hk).1
        have e3 : (l * (A.1 * A.1) + k) % (A.1 * A.1) = k := by
          rw [Nat.mul_comm l]; exact (dvm (i := l) hk).2
        have e4 : (l * (A.1 * A.1) + k) % A.1 = k % A.1 := by
          rw [← Nat.mul_assoc, Nat.mul_comm (l * A.1), Nat.mul_add_mod]
        have e5 : hM A w (l * (A.1 * A.1) + (k + 1)) = 31 * hM A w (l * (A.1 * A.1) + k) + (nI (A.2.2.2 l (k / A.1) (k % A.1))).toInt64 := by
          show 31 * hM A w (l * (A.1 * A.1) + k) + (nI (A.2.2.2 ((l * (A.1 * A.1) + k) / (A.1 * A.1)) ((l * (A.1 * A.1) + k) % (A.1 * A.1) / A.1) ((l * (A.1 * A.1) + k) % A.1))).toInt64 = _
          rw [e2, e3, e4]
        show f_X0_hash_B72 _ _ _ _ _ _ = _
        unfold f_X0_hash_B72
        simp (disch := omega) only [c_bnd, c_chk, c_lb0, c_lb1, c_lb2, c_lb3, L0, L1, L2, L10007, nI_add, pk_mul, ile_t, ile_f, ilt_t, ilt_f, ieq_t, ieq_f, c_rmI, setF_at, setF_ne, setF_setF, true_and, up1_at, up1_ne, pk_sub, pk_cpy_in, pk_cpy_out, Nat.zero_add, Nat.add_zero, Nat.zero_mul, Nat.sub_zero, Nat.add_sub_cancel_left, c_gfI h.ob, c_pfI h.ob, c_gfR h.ob h.r1, c_gfR h.ob h.r2, c_gfR h.ob h.r3, c_ldI h.g1, c_ldI h.g2, c_stI h.g1, c_stI h.g2, c_chkO h.ob, c_ldG h.g3 (h.rl hl), c_ldI (h.gl hl), c_stI (h.gl hl), e0, e1]
        rw [e5]
      · show f_X0_hash_B72 _ _ _ _ _ _ = _
        unfold f_X0_hash_B72
        simp (disch := omega) only [c_bnd, c_chk, c_lb0, c_lb1, c_lb2, c_lb3, L0, L1, L2, L10007, nI_add, pk_mul, ile_t, ile_f, ilt_t, ilt_f, ieq_t, ieq_f, c_rmI, setF_at, setF_ne, setF_setF, true_and, up1_at, up1_ne, pk_sub, pk_cpy_in, pk_cpy_out, Nat.zero_add, Nat.add_zero, Nat.zero_mul, Nat.sub_zero, Nat.add_sub_cancel_left, c_gfI h.ob, c_pfI h.ob, c_gfR h.ob h.r1, c_gfR h.ob h.r2, c_gfR h.ob h.r3, c_ldI h.g1, c_ldI h.g2, c_stI h.g1, c_stI h.g2, c_chkO h.ob, e0]
        rw [show (l + 1) * (A.1 * A.1) = l * (A.1 * A.1) + A.1 * A.1 by rw [Nat.add_mul, Nat.one_mul]]
    · show f_X0_hash_B63 _ _ _ _ _ = _
      unfold f_X0_hash_B63
      simp (disch := omega) only [c_bnd, c_chk, c_lb0, c_lb1, c_lb2, c_lb3, L0, L1, L2, L10007, nI_add, pk_mul, ile_t, ile_f, ilt_t, ilt_f, ieq_t, ieq_f, c_rmI, setF_at, setF_ne, setF_setF, true_and, up1_at, up1_ne, pk_sub, pk_cpy_in, pk_cpy_out, Nat.zero_add, Nat.add_zero, Nat.zero_mul, Nat.sub_zero, Nat.add_sub_cancel_left]
end CH
