/-! ===== the class's automata: Hadamard product, star, quotients, reversal ===== -/
section CE
variable {Γ : zSh} {N : Mem} {R : Nat → Nat → Nat} {J : Nat → Nat → Int64} {a x y cap cx cy n t m l : Nat} {A X Y : Au}
theorem dvm {i j n : Nat} (hj : j < n) : (n * i + j) / n = i ∧ (n * i + j) % n = j := by
  have hn : 0 < n := by omega
  constructor
  · rw [Nat.mul_add_div hn, Nat.div_eq_of_lt hj, Nat.add_zero]
  · rw [Nat.mul_add_mod, Nat.mod_eq_of_lt hj]
theorem dvm' {s n k : Nat} (h : s < k * n) : s / n < k ∧ s % n < n ∧ n * (s / n) + s % n = s := by
  have hn : 0 < n := by
    rcases Nat.eq_zero_or_pos n with e | e
    · rw [e, Nat.mul_zero] at h; omega
    · exact e
  exact ⟨(Nat.div_lt_iff_lt_mul hn).mpr h, Nat.mod_lt _ hn, Nat.div_add_mod _ _⟩
theorem cell_lt {i j n k : Nat} (hi : i < k) (hj : j < n) : n * i + j < k * n := by
  have : (i + 1) * n ≤ k * n := Nat.mul_le_mul_right n hi
  rw [Nat.add_mul, Nat.one_mul, Nat.mul_comm] at this
  omega
theorem s_had (h : auS Γ R a cap) (k : auS Γ R x cx) (k' : auS Γ R y cy) (d : a + 6 ≤ x ∨ x + 6 ≤ a) (d' : a + 6 ≤ y ∨ y + 6 ≤ a) (hX : cAu N x X) (hx : X.1 ≤ cx) (hY : cAu N y Y) (hy : Y.1 ≤ cy) (hc : X.1 * Y.1 ≤ cap) (okX : okA X) (okY : okA Y) : Mx (f_X0_becomeHadamard Γ a x y (cS N R J)) (fun σ => ((), σ)) R J (fun N' => frA N N' a (a + 6) ∧ cAu N' a (hadA X Y)) := by
  have hc24 := h.c24
  have hc24' := k.c24
  have hc24'' := k'.c24
  have hsq := h.sq'
  have hsqx := k.sq'
  have hsqy := k'.sq'
  have ha := h.a0
  have hnn := sq_le hc
  have e0 := hX.1
  have e1 := hY.1
  unfold f_X0_becomeHadamard
  simp (disch := omega) only [c_bnd, c_chk, c_lb0, c_lb1, c_lb2, c_lb3, L0, L1, L2, L10007, nI_add, pk_mul, ile_t, ile_f, ilt_t, ilt_f, ieq_t, ieq_f, c_rmI, setF_at, setF_ne, setF_setF, true_and, up1_at, up1_ne, pk_sub, pk_cpy_in, pk_cpy_out, Nat.zero_add, Nat.add_zero, Nat.zero_mul, Nat.sub_zero, Nat.add_sub_cancel_left, c_gfI h.ob, c_pfI h.ob, c_gfR h.ob h.r1, c_gfR h.ob h.r2, c_gfR h.ob h.r3, c_ldI h.g1, c_ldI h.g2, c_stI h.g1, c_stI h.g2, c_chkO h.ob, c_gfI k.ob, c_pfI k.ob, c_gfR k.ob k.r1, c_gfR k.ob k.r2, c_gfR k.ob k.r3, c_ldI k.g1, c_ldI k.g2, c_stI k.g1, c_stI k.g2, c_chkO k.ob, c_gfI k'.ob, c_pfI k'.ob, c_gfR k'.ob k'.r1, c_gfR k'.ob k'.r2, c_gfR k'.ob k'.r3, c_ldI k'.g1, c_ldI k'.g2, c_stI k'.g1, c_stI k'.g2, c_chkO k'.ob, e0, e1]
  let D : (Nat → Prop) → (Nat → Nat → Nat → Prop) → Mem → Prop := fun P p N' => frA N N' a (a + 6) ∧ N' a 0 = X.1 * Y.1 ∧ (∀ s, s < X.1 * Y.1 → P s → N' (a + 1) s = (hadA X Y).2.1 s ∧ N' (a + 2) s = (hadA X Y).2.2.1 s) ∧ ∀ l s t, l < 2 → s < X.1 * Y.1 → t < X.1 * Y.1 → p l s t → N' (a + 4 + l) (s * (X.1 * Y.1) + t) = (hadA X Y).2.2.2 l s t
  have D0 : ∀ P p P' p' N', D P p N' → (∀ s, s < X.1 * Y.1 → P' s → P s) → (∀ l s t, l < 2 → s < X.1 * Y.1 → t < X.1 * Y.1 → p' l s t → p l s t) → D P' p' N' := by
    intro P p P' p' N' hd h1 h2
    exact ⟨hd.1, hd.2.1, fun s e f => hd.2.2.1 s e (h1 s e f), fun l s t f1 f2 f3 f4 => hd.2.2.2 l s t f1 f2 f3 (h2 l s t f1 f2 f3 f4)⟩
  refine mx_lb0 (mx_for (fun i N' => D (fun s => s < Y.1 * i) (fun _ s _ => s < Y.1 * i) N') (e := X.1) (by omega) (by omega) ⟨frA.set (by omega) (by omega), ?_, fun s _ e => absurd e (by omega), fun l s t _ _ _ e => absurd e (by omega)⟩ ?_ ?_) ?_
  · simp (disch := omega) only [c_bnd, c_chk, c_lb0, c_lb1, c_lb2, c_lb3, L0, L1, L2, L10007, nI_add, pk_mul, ile_t, ile_f, ilt_t, ilt_f, ieq_t, ieq_f, c_rmI, setF_at, setF_ne, setF_setF, true_and, up1_at, up1_ne, pk_sub, pk_cpy_in, pk_cpy_out, Nat.zero_add, Nat.add_zero, Nat.zero_mul, Nat.sub_zero, Nat.add_sub_cancel_left]
  · intro i N1 _ hi r1
    have ei := (hX.fr r1.1 d.symm).1
    show Mx (f_X0_becomeHadamard_B15 _ _ _ _ _ _) _ _ _ _
    unfold f_X0_becomeHadamard_B15
    simp (disch := omega) only [c_bnd, c_chk, c_lb0, c_lb1, c_lb2, c_lb3, L0, L1, L2, L10007, nI_add, pk_mul, ile_t, ile_f, ilt_t, ilt_f, ieq_t, ieq_f, c_rmI, setF_at, setF_ne, setF_setF, true_and, up1_at, up1_ne, pk_sub, pk_cpy_in, pk_cpy_out, Nat.zero_add, Nat.add_zero, Nat.zero_mul, Nat.sub_zero, Nat.add_sub_cancel_left, c_gfI k.ob, c_pfI k.ob, c_gfR k.ob k.r1, c_gfR k.ob k.r2, c_gfR k.ob k.r3, c_ldI k.g1, c_ldI k.g2, c_stI k.g1, c_stI k.g2, c_chkO k.ob, ei]
    refine mx_lb0 (mx_for (fun j N' => D (fun s => s < Y.1 * i + j) (fun _ s _ => s < Y.1 * i + j) N') (e := Y.1) (by omega) (by omega) (D0 _ _ _ _ _ r1 (fun s _ e => by omega) (fun l s t _ _ _ e => by omega)) ?_ ?_) ?_
    · intro j N2 _ hj r2
      have hX2 := hX.fr r2.1 d.symm
      have hY2 := hY.fr r2.1 d'.symm
      have ej := hY2.1
      have hs := cell_lt hi hj
      have u1 := (hX2.2 i hi).1
      have u2 := (hY2.2 j hj).1
      have u3 := (hX2.2 i hi).2.1
      have u4 := (hY2.2 j hj).2.1
      have v1 := pmul (okX i hi).1 (okY j hj).1
      have v2 := pmul (okX i hi).2.1 (okY j hj).2.1
      obtain ⟨w1, w2⟩ := dvm (i := i) hj
      show Mx (f_X0_becomeHadamard_B26 _ _ _ _ _ _ _) _ _ _ _
      unfold f_X0_becomeHadamard_B26
      simp (disch := omega) only [c_bnd, c_chk, c_lb0, c_lb1, c_lb2, c_lb3, L0, L1, L2, L10007, nI_add, pk_mul, ile_t, ile_f, ilt_t, ilt_f, ieq_t, ieq_f, c_rmI, setF_at, setF_ne, setF_setF, true_and, up1_at, up1_ne, pk_sub, pk_cpy_in, pk_cpy_out, Nat.zero_add, Nat.add_zero, Nat.zero_mul, Nat.sub_zero, Nat.add_sub_cancel_left, c_gfI h.ob, c_pfI h.ob, c_gfR h.ob h.r1, c_gfR h.ob h.r2, c_gfR h.ob h.r3, c_ldI h.g1, c_ldI h.g2, c_stI h.g1, c_stI h.g2, c_chkO h.ob, c_gfI k.ob, c_pfI k.ob, c_gfR k.ob k.r1, c_gfR k.ob k.r2, c_gfR k.ob k.r3, c_ldI k.g1, c_ldI k.g2, c_stI k.g1, c_stI k.g2, c_chkO k.ob, c_gfI k'.ob, c_pfI k'.ob, c_gfR k'.ob k'.r1, c_gfR k'.ob k'.r2, c_gfR k'.ob k'.r3, c_ldI k'.g1, c_ldI k'.g2, c_stI k'.g1, c_stI k'.g2, c_chkO k'.ob, ej, u1, u2, u3, u4]
      refine mx_lb0 (mx_for (fun l N' => D (fun s => s < Y.1 * i + (j + 1)) (fun l' s _ => s < Y.1 * i + j ∨ s = Y.1 * i + j ∧ l' < l) N') (e := 2) (by omega) (by omega) ?_ ?_ ?_) ?_
      · refine ⟨r2.1.trans ((frA.set (by omega) (by omega)).trans (frA.set (by omega) (by omega))), ?_, fun s f1 f2 => ?_, fun l s t f1 f2 f3 f4 => ?_⟩
        · simp (disch := omega) only [c_bnd, c_chk, c_lb0, c_lb1, c_lb2, c_lb3, L0, L1, L2, L10007, nI_add, pk_mul, ile_t, ile_f, ilt_t, ilt_f, ieq_t, ieq_f, c_rmI, setF_at, setF_ne, setF_setF, true_and, up1_at, up1_ne, pk_sub, pk_cpy_in, pk_cpy_out, Nat.zero_add, Nat.add_zero, Nat.zero_mul, Nat.sub_zero, Nat.add_sub_cancel_left, r2.2.1]
        · by_cases e : s = Y.1 * i + j
          · subst e
            simp (disch := omega) only [c_bnd, c_chk, c_lb0, c_lb1, c_lb2, c_lb3, L0, L1, L2, L10007, nI_add, pk_mul, ile_t, ile_f, ilt_t, ilt_f, ieq_t, ieq_f, c_rmI, setF_at, setF_ne, setF_setF, true_and, up1_at, up1_ne, pk_sub, pk_cpy_in, pk_cpy_out, Nat.zero_add, Nat.add_zero, Nat.zero_mul, Nat.sub_zero, Nat.add_sub_cancel_left]
            show _ = _ * _ % _ ∧ _ = _ * _ % _
            rw [w1, w2]
            exact ⟨rfl, rfl⟩
          · simp (disch := omega) only [c_bnd, c_chk, c_lb0, c_lb1, c_lb2, c_lb3, L0, L1, L2, L10007, nI_add, pk_mul, ile_t, ile_f, ilt_t, ilt_f, ieq_t, ieq_f, c_rmI, setF_at, setF_ne, setF_setF, true_and, up1_at, up1_ne, pk_sub, pk_cpy_in, pk_cpy_out, Nat.zero_add, Nat.add_zero, Nat.zero_mul, Nat.sub_zero, Nat.add_sub_cancel_left]
            exact r2.2.2.1 s f1 (by omega)
        · simp (disch := omega) only [c_bnd, c_chk, c_lb0, c_lb1, c_lb2, c_lb3, L0, L1, L2, L10007, nI_add, pk_mul, ile_t, ile_f, ilt_t, ilt_f, ieq_t, ieq_f, c_rmI, setF_at, setF_ne, setF_setF, true_and, up1_at, up1_ne, pk_sub, pk_cpy_in, pk_cpy_out, Nat.zero_add, Nat.add_zero, Nat.zero_mul, Nat.sub_zero, Nat.add_sub_cancel_left]
          exact r2.2.2.2 l s t f1 f2 f3 (by omega)
      · intro l N3 _ hl r3
        show Mx (f_X0_becomeHadamard_B99 _ _ _ _ _ _ _ _) _ _ _ _
        unfold f_X0_becomeHadamard_B99
        simp (disch := omega) only [c_bnd, c_chk, c_lb0, c_lb1, c_lb2, c_lb3, L0, L1, L2, L10007, nI_add, pk_mul, ile_t, ile_f, ilt_t, ilt_f, ieq_t, ieq_f, c_rmI, setF_at, setF_ne, setF_setF, true_and, up1_at, up1_ne, pk_sub, pk_cpy_in, pk_cpy_out, Nat.zero_add, Nat.add_zero, Nat.zero_mul, Nat.sub_zero, Nat.add_sub_cancel_left, c_gfI h.ob, c_pfI h.ob, c_gfR h.ob h.r1, c_gfR h.ob h.r2, c_gfR h.ob h.r3, c_ldI h.g1, c_ldI h.g2, c_stI h.g1, c_stI h.g2, c_chkO h.ob]
        unfold f_X0_placeProducts
        have e6 := r3.2.1
        have e7 := (hY.fr r3.1 d'.symm).1
        simp (disch := omega) only [c_bnd, c_chk, c_lb0, c_lb1, c_lb2, c_lb3, L0, L1, L2, L10007, nI_add, pk_mul, ile_t, ile_f, ilt_t, ilt_f, ieq_t, ieq_f, c_rmI, setF_at, setF_ne, setF_setF, true_and, up1_at, up1_ne, pk_sub, pk_cpy_in, pk_cpy_out, Nat.zero_add, Nat.add_zero, Nat.zero_mul, Nat.sub_zero, Nat.add_sub_cancel_left, c_gfI h.ob, c_pfI h.ob, c_gfR h.ob h.r1, c_gfR h.ob h.r2, c_gfR h.ob h.r3, c_ldI h.g1, c_ldI h.g2, c_stI h.g1, c_stI h.g2, c_chkO h.ob, c_gfI k'.ob, c_pfI k'.ob, c_gfR k'.ob k'.r1, c_gfR k'.ob k'.r2, c_gfR k'.ob k'.r3, c_ldI k'.g1, c_ldI k'.g2, c_stI k'.g1, c_stI k'.g2, c_chkO k'.ob, e6, e7]
        refine mx_bnd (x := ()) (P := fun N' => D (fun s => s < Y.1 * i + (j + 1)) (fun l' s _ => s < Y.1 * i + j ∨ s = Y.1 * i + j ∧ l' < l + 1) N') (mx_lb0 (mx_for (fun c N' => D (fun s => s < Y.1 * i + (j + 1)) (fun l' s t => s < Y.1 * i + j ∨ s = Y.1 * i + j ∧ (l' < l ∨ l' = l ∧ t < Y.1 * c)) N') (e := X.1) (by omega) (by omega) (D0 _ _ _ _ _ r3 (fun s _ e => e) (fun l s t _ _ _ e => by omega)) ?_ ?_) ?_) ?_
        · intro c N4 _ hcc r4
          have hX4 := hX.fr r4.1 d.symm
          have f1 := hX4.1
          have f2 := ix_lt hx hi hcc
          have f3 := (hX4.2 i hi).2.2 c l hcc hl
          show Mx (f_X0_placeProducts_B19 _ _ _ _ _ _ _ _ _ _) _ _ _ _
          unfold f_X0_placeProducts_B19
          simp (disch := omega) only [c_bnd, c_chk, c_lb0, c_lb1, c_lb2, c_lb3, L0, L1, L2, L10007, nI_add, pk_mul, ile_t, ile_f, ilt_t, ilt_f, ieq_t, ieq_f, c_rmI, setF_at, setF_ne, setF_setF, true_and, up1_at, up1_ne, pk_sub, pk_cpy_in, pk_cpy_out, Nat.zero_add, Nat.add_zero, Nat.zero_mul, Nat.sub_zero, Nat.add_sub_cancel_left, c_gfI k.ob, c_pfI k.ob, c_gfR k.ob k.r1, c_gfR k.ob k.r2, c_gfR k.ob k.r3, c_ldI k.g1, c_ldI k.g2, c_stI k.g1, c_stI k.g2, c_chkO k.ob, c_ldG k.g3 (k.rl hl), c_ldI (k.gl hl), c_stI (k.gl hl), f1, f3]
          refine mx_lb0 (mx_for (fun e N' => D (fun s => s < Y.1 * i + (j + 1)) (fun l' s t => s < Y.1 * i + j ∨ s = Y.1 * i + j ∧ (l' < l ∨ l' = l ∧ t < Y.1 * c + e)) N') (e := Y.1) (by omega) (by omega) (D0 _ _ _ _ _ r4 (fun s _ e => e) (fun l s t _ _ _ e => by omega)) ?_ ?_) ?_
          · intro b N5 _ hb r5
            have hY5 := hY.fr r5.1 d'.symm
            have g1 := hY5.1
            have g2 := ix_lt hy hj hb
            have g3 := (hY5.2 j hj).2.2 b l hb hl
            have g4 := pmul ((okX i hi).2.2 c l hcc hl) ((okY j hj).2.2 b l hb hl)
            have g5 := ix_lt hc hs (cell_lt hcc hb)
            have g6 := r5.2.1
            obtain ⟨w3, w4⟩ := dvm (i := c) hb
            show Mx (f_X0_placeProducts_B50 _ _ _ _ _ _ _ _ _ _ _ _) _ _ _ _
            unfold f_X0_placeProducts_B50
            simp (disch := omega) only [c_bnd, c_chk, c_lb0, c_lb1, c_lb2, c_lb3, L0, L1, L2, L10007, nI_add, pk_mul, ile_t, ile_f, ilt_t, ilt_f, ieq_t, ieq_f, c_rmI, setF_at, setF_ne, setF_setF, true_and, up1_at, up1_ne, pk_sub, pk_cpy_in, pk_cpy_out, Nat.zero_add, Nat.add_zero, Nat.zero_mul, Nat.sub_zero, Nat.add_sub_cancel_left, c_gfI h.ob, c_pfI h.ob, c_gfR h.ob h.r1, c_gfR h.ob h.r2, c_gfR h.ob h.r3, c_ldI h.g1, c_ldI h.g2, c_stI h.g1, c_stI h.g2, c_chkO h.ob, c_gfI k'.ob, c_pfI k'.ob, c_gfR k'.ob k'.r1, c_gfR k'.ob k'.r2, c_gfR k'.ob k'.r3, c_ldI k'.g1, c_ldI k'.g2, c_stI k'.g1, c_stI k'.g2, c_chkO k'.ob, c_ldG h.g3 (h.rl hl), c_ldI (h.gl hl), c_stI (h.gl hl), c_ldG k'.g3 (k'.rl hl), c_ldI (k'.gl hl), c_stI (k'.gl hl), g1, g3]
            refine mx_eq rfl ?_
            refine ⟨r5.1.trans (frA.set (by omega) (by omega)), ?_, fun s z1 z2 => ?_, fun l' s t z1 z2 z3 z4 => ?_⟩
            · simp (disch := omega) only [c_bnd, c_chk, c_lb0, c_lb1, c_lb2, c_lb3, L0, L1, L2, L10007, nI_add, pk_mul, ile_t, ile_f, ilt_t, ilt_f, ieq_t, ieq_f, c_rmI, setF_at, setF_ne, setF_setF, true_and, up1_at, up1_ne, pk_sub, pk_cpy_in, pk_cpy_out, Nat.zero_add, Nat.add_zero, Nat.zero_mul, Nat.sub_zero, Nat.add_sub_cancel_left, g6]
            · simp (disch := omega) only [c_bnd, c_chk, c_lb0, c_lb1, c_lb2, c_lb3, L0, L1, L2, L10007, nI_add, pk_mul, ile_t, ile_f, ilt_t, ilt_f, ieq_t, ieq_f, c_rmI, setF_at, setF_ne, setF_setF, true_and, up1_at, up1_ne, pk_sub, pk_cpy_in, pk_cpy_out, Nat.zero_add, Nat.add_zero, Nat.zero_mul, Nat.sub_zero, Nat.add_sub_cancel_left]
              exact r5.2.2.1 s z1 z2
            · by_cases z5 : l' = l
              · subst z5
                simp (disch := omega) only [c_bnd, c_chk, c_lb0, c_lb1, c_lb2, c_lb3, L0, L1, L2, L10007, nI_add, pk_mul, ile_t, ile_f, ilt_t, ilt_f, ieq_t, ieq_f, c_rmI, setF_at, setF_ne, setF_setF, true_and, up1_at, up1_ne, pk_sub, pk_cpy_in, pk_cpy_out, Nat.zero_add, Nat.add_zero, Nat.zero_mul, Nat.sub_zero, Nat.add_sub_cancel_left]
                by_cases z6 : s = Y.1 * i + j ∧ t = Y.1 * c + b
                · obtain ⟨rfl, rfl⟩ := z6
                  rw [Nat.add_assoc ((Y.1 * i + j) * (X.1 * Y.1)), up1_at]
                  show _ = _ * _ % _
                  rw [w1, w2, w3, w4]
                · rw [up1_ne (fun e => z6 (ix_inj (by omega : s * (X.1 * Y.1) + t = (Y.1 * i + j) * (X.1 * Y.1) + (Y.1 * c + b)) z3 (cell_lt hcc hb)))]
                  exact r5.2.2.2 l' s t z1 z2 z3 (by omega)
              · simp (disch := omega) only [c_bnd, c_chk, c_lb0, c_lb1, c_lb2, c_lb3, L0, L1, L2, L10007, nI_add, pk_mul, ile_t, ile_f, ilt_t, ilt_f, ieq_t, ieq_f, c_rmI, setF_at, setF_ne, setF_setF, true_and, up1_at, up1_ne, pk_sub, pk_cpy_in, pk_cpy_out, Nat.zero_add, Nat.add_zero, Nat.zero_mul, Nat.sub_zero, Nat.add_sub_cancel_left]
                exact r5.2.2.2 l' s t z1 z2 z3 (by omega)
          · intro N5 r5
            have g1 := (hY.fr r5.1 d'.symm).1
            show f_X0_placeProducts_B50 _ _ _ _ _ _ _ _ _ _ _ _ = _
            unfold f_X0_placeProducts_B50
            simp (disch := omega) only [c_bnd, c_chk, c_lb0, c_lb1, c_lb2, c_lb3, L0, L1, L2, L10007, nI_add, pk_mul, ile_t, ile_f, ilt_t, ilt_f, ieq_t, ieq_f, c_rmI, setF_at, setF_ne, setF_setF, true_and, up1_at, up1_ne, pk_sub, pk_cpy_in, pk_cpy_out, Nat.zero_add, Nat.add_zero, Nat.zero_mul, Nat.sub_zero, Nat.add_sub_cancel_left, c_gfI k'.ob, c_pfI k'.ob, c_gfR k'.ob k'.r1, c_gfR k'.ob k'.r2, c_gfR k'.ob k'.r3, c_ldI k'.g1, c_ldI k'.g2, c_stI k'.g1, c_stI k'.g2, c_chkO k'.ob, g1]
          · intro N5 r5
            refine mx_eq rfl ?_
            exact D0 _ _ _ _ _ r5 (fun s _ e => e) (fun l s t _ _ _ e => by rw [Nat.mul_add, Nat.mul_one] at e; exact e)
        · intro N4 r4
          have f1 := (hX.fr r4.1 d.symm).1
          show f_X0_placeProducts_B19 _ _ _ _ _ _ _ _ _ _ = _
          unfold f_X0_placeProducts_B19
          simp (disch := omega) only [c_bnd, c_chk, c_lb0, c_lb1, c_lb2, c_lb3, L0, L1, L2, L10007, nI_add, pk_mul, ile_t, ile_f, ilt_t, ilt_f, ieq_t, ieq_f, c_rmI, setF_at, setF_ne, setF_setF, true_and, up1_at, up1_ne, pk_sub, pk_cpy_in, pk_cpy_out, Nat.zero_add, Nat.add_zero, Nat.zero_mul, Nat.sub_zero, Nat.add_sub_cancel_left, c_gfI k.ob, c_pfI k.ob, c_gfR k.ob k.r1, c_gfR k.ob k.r2, c_gfR k.ob k.r3, c_ldI k.g1, c_ldI k.g2, c_stI k.g1, c_stI k.g2, c_chkO k.ob, f1]
        · intro N4 r4
          refine mx_eq rfl ?_
          exact D0 _ _ _ _ _ r4 (fun s _ e => e) (fun l s t _ _ z e => by rw [Nat.mul_comm Y.1 X.1]; omega)
        · intro N4 r4
          exact mx_eq rfl r4
      · intro N3 r3
        show f_X0_becomeHadamard_B99 _ _ _ _ _ _ _ _ = _
        unfold f_X0_becomeHadamard_B99
        simp (disch := omega) only [c_bnd, c_chk, c_lb0, c_lb1, c_lb2, c_lb3, L0, L1, L2, L10007, nI_add, pk_mul, ile_t, ile_f, ilt_t, ilt_f, ieq_t, ieq_f, c_rmI, setF_at, setF_ne, setF_setF, true_and, up1_at, up1_ne, pk_sub, pk_cpy_in, pk_cpy_out, Nat.zero_add, Nat.add_zero, Nat.zero_mul, Nat.sub_zero, Nat.add_sub_cancel_left]
      · intro N3 r3
        refine mx_eq rfl ?_
        exact D0 _ _ _ _ _ r3 (fun s _ e => e) (fun l s t _ _ _ e => by omega)
    · intro N2 r2
      have ej := (hY.fr r2.1 d'.symm).1
      show f_X0_becomeHadamard_B26 _ _ _ _ _ _ _ = _
      unfold f_X0_becomeHadamard_B26
      simp (disch := omega) only [c_bnd, c_chk, c_lb0, c_lb1, c_lb2, c_lb3, L0, L1, L2, L10007, nI_add, pk_mul, ile_t, ile_f, ilt_t, ilt_f, ieq_t, ieq_f, c_rmI, setF_at, setF_ne, setF_setF, true_and, up1_at, up1_ne, pk_sub, pk_cpy_in, pk_cpy_out, Nat.zero_add, Nat.add_zero, Nat.zero_mul, Nat.sub_zero, Nat.add_sub_cancel_left, c_gfI k'.ob, c_pfI k'.ob, c_gfR k'.ob k'.r1, c_gfR k'.ob k'.r2, c_gfR k'.ob k'.r3, c_ldI k'.g1, c_ldI k'.g2, c_stI k'.g1, c_stI k'.g2, c_chkO k'.ob, ej]
    · intro N2 r2
      refine mx_eq rfl ?_
      exact D0 _ _ _ _ _ r2 (fun s _ e => by rw [Nat.mul_add, Nat.mul_one] at e; exact e) (fun l s t _ _ _ e => by rw [Nat.mul_add, Nat.mul_one] at e; exact e)
  · intro N1 r1
    have ei := (hX.fr r1.1 d.symm).1
    show f_X0_becomeHadamard_B15 _ _ _ _ _ _ = _
    unfold f_X0_becomeHadamard_B15
    simp (disch := omega) only [c_bnd, c_chk, c_lb0, c_lb1, c_lb2, c_lb3, L0, L1, L2, L10007, nI_add, pk_mul, ile_t, ile_f, ilt_t, ilt_f, ieq_t, ieq_f, c_rmI, setF_at, setF_ne, setF_setF, true_and, up1_at, up1_ne, pk_sub, pk_cpy_in, pk_cpy_out, Nat.zero_add, Nat.add_zero, Nat.zero_mul, Nat.sub_zero, Nat.add_sub_cancel_left, c_gfI k.ob, c_pfI k.ob, c_gfR k.ob k.r1, c_gfR k.ob k.r2, c_gfR k.ob k.r3, c_ldI k.g1, c_ldI k.g2, c_stI k.g1, c_stI k.g2, c_chkO k.ob, ei]
  · intro N1 r1
    refine mx_eq rfl ?_
    refine ⟨r1.1, r1.2.1, fun s hs => ?_⟩
    have e : s < Y.1 * X.1 := by rw [Nat.mul_comm]; exact hs
    exact ⟨(r1.2.2.1 s hs e).1, (r1.2.2.1 s hs e).2, fun t l ht hl => r1.2.2.2 l s t hl hs ht e⟩
end CE
