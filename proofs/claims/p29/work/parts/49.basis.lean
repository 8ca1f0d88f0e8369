/-! ===== the class's basis: explore, build, reduce, minimize ===== -/
section WH
variable {β : Type} {R : Mem} {J : Nat → Nat → Int64}
theorem loopM_e {S B : Type} {f : S → Option (S ⊕ B)} (q : Nat → S → Prop) (p : B → Prop) (n : Nat) (hs : ∀ i s, i ≤ n → q i s → (i < n ∧ ∃ s', f s = some (.inl s') ∧ q (i + 1) s') ∨ ∃ b, f s = some (.inr b) ∧ p b) : ∀ (m k F : Nat) (s : S), k + m = n → q k s → m < F → ∃ b, loopM f F s = some b ∧ p b := by
  intro m
  induction m with
  | zero =>
    intro k F s hk h0 hF
    obtain ⟨F, rfl⟩ : ∃ m, F = m + 1 := ⟨F - 1, by omega⟩
    rcases hs k s (by omega) h0 with h | ⟨b, e, hb⟩
    · omega
    · unfold loopM
      rw [e]
      exact ⟨b, rfl, hb⟩
  | succ m ih =>
    intro k F s hk h0 hF
    obtain ⟨F, rfl⟩ : ∃ m, F = m + 1 := ⟨F - 1, by omega⟩
    rcases hs k s (by omega) h0 with ⟨_, s', e, h1⟩ | ⟨b, e, hb⟩
    · unfold loopM
      rw [e]
      exact ih (k + 1) F s' (by omega) h1 (by omega)
    · unfold loopM
      rw [e]
      exact ⟨b, rfl, hb⟩
theorem mx_while {f : Int32 × zSt → Option ((Int32 × zSt) ⊕ zSt)} {N : Mem} (q : Nat → Mem → Prop) (P : Mem → Prop) (n : Nat) (hn : n ≤ 90000) (h0 : q 0 N) (hs : ∀ k N, k ≤ n → q k N → (k < n ∧ Mx (f (nI k, cS N R J)) (fun σ => .inl (nI (k + 1), σ)) R J (q (k + 1))) ∨ (f (nI k, cS N R J) = some (.inr (cS N R J)) ∧ P N)) : Mx (loopM f FUEL (nI 0, cS N R J)) (fun σ => σ) R J P := by
  suffices hh : ∃ b, loopM f FUEL (nI 0, cS N R J) = some b ∧ ∃ N, b = cS N R J ∧ P N by
    obtain ⟨b, e1, N', e2, h⟩ := hh
    subst e2
    exact ⟨N', e1, h⟩
  refine loopM_e (f := f) (fun k s => ∃ N, s = (nI k, cS N R J) ∧ q k N) (fun b => ∃ N, b = cS N R J ∧ P N) n ?_ n 0 FUEL _ (by omega) ⟨N, rfl, h0⟩ (by unfold FUEL; omega)
  intro i s hi ⟨N1, e, h⟩
  subst e
  rcases hs i N1 hi h with ⟨a, N2, e2, h2⟩ | ⟨e2, h2⟩
  · exact Or.inl ⟨a, _, e2, N2, rfl, h2⟩
  · exact Or.inr ⟨_, e2, N1, rfl, h2⟩
end WH
def cIm (N : Mem) (b : Nat) (A : Au) : Prop := ∀ t, t < 2 * (expl A).1 → ∀ j, j < A.1 → N (b + 80 + t) j = (rd (expl A) (stpA A (t % 2) ((expl A).2.2.2.1 (t / 2))) (expl A).1).2 j
section BD
variable {Γ : zSh} {N : Mem} {R : Mem} {J : Nat → Nat → Int64} {a b r cap : Nat} {A : Au}
theorem s_explore (h : bS Γ R b) (k : auS Γ R a cap) (d : a + 6 ≤ b ∨ b + 131 ≤ a) (hA : cAu N a A) (hc : A.1 ≤ cap) (ok : okA A) : Mx (f_X1_explore Γ b a (cS N R J)) (fun σ => ((), σ)) R J (fun N' => frA N N' b (b + 131) ∧ cBs N' b A.1 (expl A) ∧ cWt N' b A (expl A) ∧ cIm N' b A) := by
  have hc24 := k.c24
  have ha := k.a0
  have hb := h.1.2
  have e0 := hA.1
  have h24 : A.1 ≤ 24 := by omega
  unfold f_X1_explore
  simp (disch := omega) only [c_bnd, c_chk, c_lb0, c_lb1, c_lb2, c_lb3, L0, L1, L2, L10007, nI_add, pk_mul, ile_t, ile_f, ilt_t, ilt_f, ieq_t, ieq_f, c_rmI, setF_at, setF_ne, setF_setF, true_and, up1_at, up1_ne, pk_sub, pk_cpy_in, pk_cpy_out, Nat.zero_add, Nat.add_zero, Nat.zero_mul, Nat.sub_zero, Nat.add_sub_cancel_left, c_gfI k.ob, c_pfI k.ob, c_gfR k.ob k.r1, c_gfR k.ob k.r2, c_gfR k.ob k.r3, c_ldI k.g1, c_ldI k.g2, c_stI k.g1, c_stI k.g2, c_chkO k.ob, c_gfI h.ob, c_pfI h.ob, c_chkO h.ob, L24, c_gfR h.ob h.rwords, c_gfR h.ob h.rweights, c_gfR h.ob h.rvectors, c_gfR h.ob h.rechelon, c_gfR h.ob h.rparts, c_gfR h.ob h.rpivots, c_gfR h.ob h.rimages, c_gfR h.ob h.rtrial, c_gfR h.ob h.rrest, c_gfR h.ob h.rcoords, c_ldI h.gwords, c_stI h.gwords, c_ldI h.gweights, c_stI h.gweights, c_ldI h.gpivots, c_stI h.gpivots, c_ldI h.gtrial, c_stI h.gtrial, c_ldI h.grest, c_stI h.grest, c_ldI h.gcoords, c_stI h.gcoords, e0, c_cpI k.g1 h.gtrial]
  have hA1 : cAu (setF (setF N b (up1 (N b) 0 0)) (b + 128) (va_cpy (N (a + 1)) (N (b + 128)) 0 0 A.1)) a A := by
    have f : frA N (setF (setF N b (up1 (N b) 0 0)) (b + 128) (va_cpy (N (a + 1)) (N (b + 128)) 0 0 A.1)) b (b + 131) := (frA.set (by omega) (by omega)).trans (frA.set (by omega) (by omega))
    exact hA.fr f d
  refine mx_bnd (s_bplace h k d hA1 hc ok (bs0_I) ⟨?_, fun i hi => absurd hi (Nat.not_lt_zero i)⟩ (fun i hi => absurd hi (Nat.not_lt_zero i)) (v := A.2.1) (fun j hj => ?_) (fun j hj => (ok j hj).1)) ?_
  · simp (disch := omega) only [c_bnd, c_chk, c_lb0, c_lb1, c_lb2, c_lb3, L0, L1, L2, L10007, nI_add, pk_mul, ile_t, ile_f, ilt_t, ilt_f, ieq_t, ieq_f, c_rmI, setF_at, setF_ne, setF_setF, true_and, up1_at, up1_ne, pk_sub, pk_cpy_in, pk_cpy_out, Nat.zero_add, Nat.add_zero, Nat.zero_mul, Nat.sub_zero, Nat.add_sub_cancel_left]
    rfl
  · simp (disch := omega) only [c_bnd, c_chk, c_lb0, c_lb1, c_lb2, c_lb3, L0, L1, L2, L10007, nI_add, pk_mul, ile_t, ile_f, ilt_t, ilt_f, ieq_t, ieq_f, c_rmI, setF_at, setF_ne, setF_setF, true_and, up1_at, up1_ne, pk_sub, pk_cpy_in, pk_cpy_out, Nat.zero_add, Nat.add_zero, Nat.zero_mul, Nat.sub_zero, Nat.add_sub_cancel_left, (hA.2 j hj).1]
  intro N1 ⟨p1, p2, p3, p4, p5⟩
  have p1' : frA N N1 b (b + 131) := (((frA.set (by omega) (by omega)).trans (frA.set (by omega) (by omega))) : frA N _ b (b + 131)).trans p1
  clear p1 hA1
  let inv : Nat → Mem → Prop := fun t N' => frA N N' b (b + 131) ∧ cBs N' b A.1 (exl A t) ∧ cWt N' b A (exl A t) ∧ ∀ s, s < t → s / 2 < (exl A s).1 ∧ ∀ j, j < A.1 → N' (b + 80 + s) j = cod A.1 (exl A s) (stpA A (s % 2) ((exl A s).2.2.2.1 (s / 2))) j
  refine mx_lb0 (mx_while (fun k N' => inv (2 * k) N') (fun N' => ∃ k, (exl A (2 * k)).1 ≤ k ∧ inv (2 * k) N') 24 (by omega) ⟨p1', p3, p4, fun s e => absurd e (by omega)⟩ ?_) ?_
  · intro c N2 hcc ⟨r1, r2, r3, r4⟩
    have hle := bI_le (exl_I ok (2 * c))
    have f0 := r2.1
    by_cases e : (exl A (2 * c)).1 ≤ c
    · refine Or.inr ⟨?_, c, e, r1, r2, r3, r4⟩
      show f_X1_explore_B32 _ _ _ _ _ _ = _
      unfold f_X1_explore_B32
      simp (disch := omega) only [c_bnd, c_chk, c_lb0, c_lb1, c_lb2, c_lb3, L0, L1, L2, L10007, nI_add, pk_mul, ile_t, ile_f, ilt_t, ilt_f, ieq_t, ieq_f, c_rmI, setF_at, setF_ne, setF_setF, true_and, up1_at, up1_ne, pk_sub, pk_cpy_in, pk_cpy_out, Nat.zero_add, Nat.add_zero, Nat.zero_mul, Nat.sub_zero, Nat.add_sub_cancel_left, c_gfI h.ob, c_pfI h.ob, c_chkO h.ob, L24, c_gfR h.ob h.rwords, c_gfR h.ob h.rweights, c_gfR h.ob h.rvectors, c_gfR h.ob h.rechelon, c_gfR h.ob h.rparts, c_gfR h.ob h.rpivots, c_gfR h.ob h.rimages, c_gfR h.ob h.rtrial, c_gfR h.ob h.rrest, c_gfR h.ob h.rcoords, c_ldI h.gwords, c_stI h.gwords, c_ldI h.gweights, c_stI h.gweights, c_ldI h.gpivots, c_stI h.gpivots, c_ldI h.gtrial, c_stI h.gtrial, c_ldI h.grest, c_stI h.grest, c_ldI h.gcoords, c_stI h.gcoords, f0]
    · refine Or.inl ⟨by omega, ?_⟩
      show Mx (f_X1_explore_B32 _ _ _ _ _ _) _ _ _ _
      unfold f_X1_explore_B32
      simp (disch := omega) only [c_bnd, c_chk, c_lb0, c_lb1, c_lb2, c_lb3, L0, L1, L2, L10007, nI_add, pk_mul, ile_t, ile_f, ilt_t, ilt_f, ieq_t, ieq_f, c_rmI, setF_at, setF_ne, setF_setF, true_and, up1_at, up1_ne, pk_sub, pk_cpy_in, pk_cpy_out, Nat.zero_add, Nat.add_zero, Nat.zero_mul, Nat.sub_zero, Nat.add_sub_cancel_left, c_gfI h.ob, c_pfI h.ob, c_chkO h.ob, L24, c_gfR h.ob h.rwords, c_gfR h.ob h.rweights, c_gfR h.ob h.rvectors, c_gfR h.ob h.rechelon, c_gfR h.ob h.rparts, c_gfR h.ob h.rpivots, c_gfR h.ob h.rimages, c_gfR h.ob h.rtrial, c_gfR h.ob h.rrest, c_gfR h.ob h.rcoords, c_ldI h.gwords, c_stI h.gwords, c_ldI h.gweights, c_stI h.gweights, c_ldI h.gpivots, c_stI h.gpivots, c_ldI h.gtrial, c_stI h.gtrial, c_ldI h.grest, c_stI h.grest, c_ldI h.gcoords, c_stI h.gcoords, f0]
      refine mx_lb0 (mx_for (fun l N' => inv (2 * c + l) N') (s := 0) (e := 2) (by omega) (by omega) ⟨r1, r2, r3, r4⟩ ?_ ?_) ?_
      · intro l N3 _ hl ⟨u1, u2, u3, u4⟩
        have hx := exl_ext (A := A) (t := 2 * c) l
        have hcl : c < (exl A (2 * c + l)).1 := by
          have := hx.1
          omega
        have hle2 := bI_le (exl_I ok (2 * c + l))
        have hA3 := hA.fr u1 d
        have gv := h.2.2.1 c (by omega)
        have gi := h.2.2.2 (2 * c + l) (by omega)
        have d2 : (2 * c + l) / 2 = c := by omega
        have d3 : (2 * c + l) % 2 = l := by omega
        have hvec : ∀ j, j < A.1 → N3 (b + 4 + c) j = (exl A (2 * c + l)).2.2.2.1 c j := fun j hj => ((u2.2 c hcl).2.2 j hj).1
        have hvb : ∀ j, j < A.1 → (exl A (2 * c + l)).2.2.2.1 c j < 10007 := fun j hj => (exl_I ok (2 * c + l)).2.1 c j hcl hj
        have hwd := (u2.2 c hcl).1
        show Mx (f_X1_explore_B49 _ _ _ _ _ _ _) _ _ _ _
        unfold f_X1_explore_B49
        simp (disch := omega) only [c_bnd, c_chk, c_lb0, c_lb1, c_lb2, c_lb3, L0, L1, L2, L10007, nI_add, pk_mul, ile_t, ile_f, ilt_t, ilt_f, ieq_t, ieq_f, c_rmI, setF_at, setF_ne, setF_setF, true_and, up1_at, up1_ne, pk_sub, pk_cpy_in, pk_cpy_out, Nat.zero_add, Nat.add_zero, Nat.zero_mul, Nat.sub_zero, Nat.add_sub_cancel_left, c_gfI h.ob, c_pfI h.ob, c_chkO h.ob, L24, c_gfR h.ob h.rwords, c_gfR h.ob h.rweights, c_gfR h.ob h.rvectors, c_gfR h.ob h.rechelon, c_gfR h.ob h.rparts, c_gfR h.ob h.rpivots, c_gfR h.ob h.rimages, c_gfR h.ob h.rtrial, c_gfR h.ob h.rrest, c_gfR h.ob h.rcoords, c_ldI h.gwords, c_stI h.gwords, c_ldI h.gweights, c_stI h.gweights, c_ldI h.gpivots, c_stI h.gpivots, c_ldI h.gtrial, c_stI h.gtrial, c_ldI h.grest, c_stI h.grest, c_ldI h.gcoords, c_stI h.gcoords, c_gfI k.ob, c_pfI k.ob, c_gfR k.ob k.r1, c_gfR k.ob k.r2, c_gfR k.ob k.r3, c_ldI k.g1, c_ldI k.g2, c_stI k.g1, c_stI k.g2, c_chkO k.ob, c_ldG h.gvectors gv.1.2]
        rw [s_take k hA3 hc ok hl gv.1.1 (by omega) (by omega) h.gtrial (by omega) (by omega) (by omega) (fun j hj => by rw [hvec j hj]; exact hvb j hj)]
        simp (disch := omega) only [c_bnd, c_chk, c_lb0, c_lb1, c_lb2, c_lb3, L0, L1, L2, L10007, nI_add, pk_mul, ile_t, ile_f, ilt_t, ilt_f, ieq_t, ieq_f, c_rmI, setF_at, setF_ne, setF_setF, true_and, up1_at, up1_ne, pk_sub, pk_cpy_in, pk_cpy_out, Nat.zero_add, Nat.add_zero, Nat.zero_mul, Nat.sub_zero, Nat.add_sub_cancel_left, c_gfI h.ob, c_pfI h.ob, c_chkO h.ob, L24, c_gfR h.ob h.rwords, c_gfR h.ob h.rweights, c_gfR h.ob h.rvectors, c_gfR h.ob h.rechelon, c_gfR h.ob h.rparts, c_gfR h.ob h.rpivots, c_gfR h.ob h.rimages, c_gfR h.ob h.rtrial, c_gfR h.ob h.rrest, c_gfR h.ob h.rcoords, c_ldI h.gwords, c_stI h.gwords, c_ldI h.gweights, c_stI h.gweights, c_ldI h.gpivots, c_stI h.gpivots, c_ldI h.gtrial, c_stI h.gtrial, c_ldI h.grest, c_stI h.grest, c_ldI h.gcoords, c_stI h.gcoords, hwd]
        generalize hN4 : setF N3 (b + 128) _ = N4
        have s1 : ∀ x, x ≠ b + 128 → N4 x = N3 x := by
          intro x e
          subst hN4
          simp (disch := omega) only [c_bnd, c_chk, c_lb0, c_lb1, c_lb2, c_lb3, L0, L1, L2, L10007, nI_add, pk_mul, ile_t, ile_f, ilt_t, ilt_f, ieq_t, ieq_f, c_rmI, setF_at, setF_ne, setF_setF, true_and, up1_at, up1_ne, pk_sub, pk_cpy_in, pk_cpy_out, Nat.zero_add, Nat.add_zero, Nat.zero_mul, Nat.sub_zero, Nat.add_sub_cancel_left]
        have s2 : ∀ j, j < A.1 → N4 (b + 128) j = stpA A l ((exl A (2 * c + l)).2.2.2.1 c) j := by
          intro j hj
          subst hN4
          simp (disch := omega) only [c_bnd, c_chk, c_lb0, c_lb1, c_lb2, c_lb3, L0, L1, L2, L10007, nI_add, pk_mul, ile_t, ile_f, ilt_t, ilt_f, ieq_t, ieq_f, c_rmI, setF_at, setF_ne, setF_setF, true_and, up1_at, up1_ne, pk_sub, pk_cpy_in, pk_cpy_out, Nat.zero_add, Nat.add_zero, Nat.zero_mul, Nat.sub_zero, Nat.add_sub_cancel_left, if_pos hj]
          exact stpA_congr hvec
        clear hN4
        have s1' : frA N3 N4 b (b + 131) := fun x e => s1 x (by omega)
        have hA4 : cAu N4 a A := hA3.fr s1' d
        refine mx_bnd (s_bplace h k d hA4 hc ok (exl_I ok (2 * c + l)) (u2.of (by omega) (fun x e1 e2 => s1 x (by omega))) (fun i hi => by rw [s1 _ (by omega)]; exact u3 i hi) s2 (fun j hj => stpA_lt)) ?_
        intro N5 ⟨t1, t2, t3, t4, t5⟩
        have hst : exl A (2 * c + l + 1) = plc A.1 (exl A (2 * c + l)) (stpA A l ((exl A (2 * c + l)).2.2.2.1 c)) (2 * (exl A (2 * c + l)).2.1 c + 1 + l) := by
          rw [exl, d2, d3, if_pos hcl]
        rw [← hst] at t3 t4
        simp (disch := omega) only [c_bnd, c_chk, c_lb0, c_lb1, c_lb2, c_lb3, L0, L1, L2, L10007, nI_add, pk_mul, ile_t, ile_f, ilt_t, ilt_f, ieq_t, ieq_f, c_rmI, setF_at, setF_ne, setF_setF, true_and, up1_at, up1_ne, pk_sub, pk_cpy_in, pk_cpy_out, Nat.zero_add, Nat.add_zero, Nat.zero_mul, Nat.sub_zero, Nat.add_sub_cancel_left, c_gfI h.ob, c_pfI h.ob, c_chkO h.ob, L24, c_gfR h.ob h.rwords, c_gfR h.ob h.rweights, c_gfR h.ob h.rvectors, c_gfR h.ob h.rechelon, c_gfR h.ob h.rparts, c_gfR h.ob h.rpivots, c_gfR h.ob h.rimages, c_gfR h.ob h.rtrial, c_gfR h.ob h.rrest, c_gfR h.ob h.rcoords, c_ldI h.gwords, c_stI h.gwords, c_ldI h.gweights, c_stI h.gweights, c_ldI h.gpivots, c_stI h.gpivots, c_ldI h.gtrial, c_stI h.gtrial, c_ldI h.grest, c_stI h.grest, c_ldI h.gcoords, c_stI h.gcoords, c_ldG h.gimages gi.2, c_cpI h.gcoords gi.1]
        refine mx_eq rfl ⟨?_, ?_, fun i hi => ?_, fun s hs => ?_⟩
        · exact (u1.trans (s1'.trans t1)).trans (frA.set (by omega) (by omega))
        · have hle3 := bI_le (exl_I ok (2 * c + l + 1))
          exact t3.of (by omega) (fun x e1 e2 => setF_ne (by omega))
        · rw [setF_ne (by omega)]
          exact t4 i hi
        · by_cases e2 : s = 2 * c + l
          · subst e2
            rw [d2, d3]
            refine ⟨hcl, fun j hj => ?_⟩
            simp (disch := omega) only [c_bnd, c_chk, c_lb0, c_lb1, c_lb2, c_lb3, L0, L1, L2, L10007, nI_add, pk_mul, ile_t, ile_f, ilt_t, ilt_f, ieq_t, ieq_f, c_rmI, setF_at, setF_ne, setF_setF, true_and, up1_at, up1_ne, pk_sub, pk_cpy_in, pk_cpy_out, Nat.zero_add, Nat.add_zero, Nat.zero_mul, Nat.sub_zero, Nat.add_sub_cancel_left]
            exact t5 j hj
          · obtain ⟨z1, z2⟩ := u4 s (by omega)
            refine ⟨z1, fun j hj => ?_⟩
            rw [setF_ne (by omega), t2 _ (by omega) (by omega), s1 _ (by omega)]
            exact z2 j hj
      · intro N3 _
        show f_X1_explore_B49 _ _ _ _ _ _ _ = _
        unfold f_X1_explore_B49
        simp (disch := omega) only [c_bnd, c_chk, c_lb0, c_lb1, c_lb2, c_lb3, L0, L1, L2, L10007, nI_add, pk_mul, ile_t, ile_f, ilt_t, ilt_f, ieq_t, ieq_f, c_rmI, setF_at, setF_ne, setF_setF, true_and, up1_at, up1_ne, pk_sub, pk_cpy_in, pk_cpy_out, Nat.zero_add, Nat.add_zero, Nat.zero_mul, Nat.sub_zero, Nat.add_sub_cancel_left]
      · intro N3 q
        refine mx_eq rfl ?_
        rw [show 2 * (c + 1) = 2 * c + 2 by omega]
        exact q
  · intro N2 ⟨c, e, r1, r2, r3, r4⟩
    have hfin : exl A (2 * c) = expl A := exl_fin ok h24 (by omega)
    rw [hfin] at r2 r3 e
    refine mx_eq rfl ⟨r1, r2, r3, fun t ht j hj => ?_⟩
    obtain ⟨z1, z2⟩ := r4 t (by omega)
    have hx := exl_to (A := A) (t := t) ok h24
    have hst : exl A (t + 1) = plc A.1 (exl A t) (stpA A (t % 2) ((exl A t).2.2.2.1 (t / 2))) (2 * (exl A t).2.1 (t / 2) + 1 + t % 2) := by
      rw [exl, if_pos z1]
    have hx1 := exl_to (A := A) (t := t + 1) ok h24
    rw [hst] at hx1
    rw [z2 j hj, ← cod_fin (exl_I ok t) (expl_I ok) (fun j hj => stpA_lt) hx1, (hx.2 _ z1).2.2.1]
theorem s_firstW (h : bS Γ R b) (ok : okA A) (h24 : A.1 ≤ 24) (hB : cBs N b A.1 (expl A)) (hW : cWt N b A (expl A)) : f_X1_firstWeighted Γ b (cS N R J) = some (if fnz (fun k => wtA A ((expl A).2.2.2.1 k)) (expl A).1 = (expl A).1 then -1 else nI ((expl A).2.1 (fnz (fun k => wtA A ((expl A).2.2.2.1 k)) (expl A).1)), cS N R J) := by
  have hb := h.1.2
  have e0 := hB.1
  have hle := bI_le (expl_I ok)
  have n3 := fnz_le (f := fun k => wtA A ((expl A).2.2.2.1 k)) (expl A).1
  unfold f_X1_firstWeighted
  simp (disch := omega) only [c_bnd, c_chk, c_lb0, c_lb1, c_lb2, c_lb3, L0, L1, L2, L10007, nI_add, pk_mul, ile_t, ile_f, ilt_t, ilt_f, ieq_t, ieq_f, c_rmI, setF_at, setF_ne, setF_setF, true_and, up1_at, up1_ne, pk_sub, pk_cpy_in, pk_cpy_out, Nat.zero_add, Nat.add_zero, Nat.zero_mul, Nat.sub_zero, Nat.add_sub_cancel_left, c_gfI h.ob, c_pfI h.ob, c_chkO h.ob, L24, c_gfR h.ob h.rwords, c_gfR h.ob h.rweights, c_gfR h.ob h.rvectors, c_gfR h.ob h.rechelon, c_gfR h.ob h.rparts, c_gfR h.ob h.rpivots, c_gfR h.ob h.rimages, c_gfR h.ob h.rtrial, c_gfR h.ob h.rrest, c_gfR h.ob h.rcoords, c_ldI h.gwords, c_stI h.gwords, c_ldI h.gweights, c_stI h.gweights, c_ldI h.gpivots, c_stI h.gpivots, c_ldI h.gtrial, c_stI h.gtrial, c_ldI h.grest, c_stI h.grest, c_ldI h.gcoords, c_stI h.gcoords, e0]
  rw [s_fnz h.gweights (by omega) (by omega) (fun j hj => by rw [hW j hj]; exact wtA_lt), fnz_congr (expl A).1 hW, c_bnd]
  generalize fnz (fun k => wtA A ((expl A).2.2.2.1 k)) (expl A).1 = i at *
  by_cases e : i = (expl A).1
  · rw [if_pos e, if_pos e, if_pos (show (-1 : Int32) = -nI 1 from rfl)]
    rfl
  · have hnm : ¬ nI i = -nI 1 := fun q => by
      have h0 : ¬ nI i < (0 : Int32) := nI_pos (by omega)
      rw [q] at h0
      exact h0 (by decide)
    have hw := (hB.2 i (by omega)).1
    rw [if_neg e, if_neg e, if_neg hnm]
    simp (disch := omega) only [c_bnd, c_chk, c_lb0, c_lb1, c_lb2, c_lb3, L0, L1, L2, L10007, nI_add, pk_mul, ile_t, ile_f, ilt_t, ilt_f, ieq_t, ieq_f, c_rmI, setF_at, setF_ne, setF_setF, true_and, up1_at, up1_ne, pk_sub, pk_cpy_in, pk_cpy_out, Nat.zero_add, Nat.add_zero, Nat.zero_mul, Nat.sub_zero, Nat.add_sub_cancel_left, c_gfI h.ob, c_pfI h.ob, c_chkO h.ob, L24, c_gfR h.ob h.rwords, c_gfR h.ob h.rweights, c_gfR h.ob h.rvectors, c_gfR h.ob h.rechelon, c_gfR h.ob h.rparts, c_gfR h.ob h.rpivots, c_gfR h.ob h.rimages, c_gfR h.ob h.rtrial, c_gfR h.ob h.rrest, c_gfR h.ob h.rcoords, c_ldI h.gwords, c_stI h.gwords, c_ldI h.gweights, c_stI h.gweights, c_ldI h.gpivots, c_stI h.gpivots, c_ldI h.gtrial, c_stI h.gtrial, c_ldI h.grest, c_stI h.grest, c_ldI h.gcoords, c_stI h.gcoords, hw]
    rfl
theorem s_build (h : bS Γ R b) (k : auS Γ R r cap) (d : r + 6 ≤ b ∨ b + 131 ≤ r) (ok : okA A) (h24 : A.1 ≤ 24) (hc : (expl A).1 ≤ cap) (hB : cBs N b A.1 (expl A)) (hW : cWt N b A (expl A)) (hM : cIm N b A) : Mx (f_X1_build Γ b r (cS N R J)) (fun σ => ((), σ)) R J (fun N' => frA N N' r (r + 6) ∧ cAu N' r (redA A)) := by
  have hc24 := k.c24
  have hsq := k.sq'
  have hnn := sq_le hc
  have ha := k.a0
  have hb := h.1.2
  have e0 := hB.1
  have hle := bI_le (expl_I ok)
  have hn : (redA A).1 = (expl A).1 := by unfold redA; rfl
  unfold f_X1_build
  simp (disch := omega) only [c_bnd, c_chk, c_lb0, c_lb1, c_lb2, c_lb3, L0, L1, L2, L10007, nI_add, pk_mul, ile_t, ile_f, ilt_t, ilt_f, ieq_t, ieq_f, c_rmI, setF_at, setF_ne, setF_setF, true_and, up1_at, up1_ne, pk_sub, pk_cpy_in, pk_cpy_out, Nat.zero_add, Nat.add_zero, Nat.zero_mul, Nat.sub_zero, Nat.add_sub_cancel_left, c_gfI h.ob, c_pfI h.ob, c_chkO h.ob, L24, c_gfR h.ob h.rwords, c_gfR h.ob h.rweights, c_gfR h.ob h.rvectors, c_gfR h.ob h.rechelon, c_gfR h.ob h.rparts, c_gfR h.ob h.rpivots, c_gfR h.ob h.rimages, c_gfR h.ob h.rtrial, c_gfR h.ob h.rrest, c_gfR h.ob h.rcoords, c_ldI h.gwords, c_stI h.gwords, c_ldI h.gweights, c_stI h.gweights, c_ldI h.gpivots, c_stI h.gpivots, c_ldI h.gtrial, c_stI h.gtrial, c_ldI h.grest, c_stI h.grest, c_ldI h.gcoords, c_stI h.gcoords, c_gfI k.ob, c_pfI k.ob, c_gfR k.ob k.r1, c_gfR k.ob k.r2, c_gfR k.ob k.r3, c_ldI k.g1, c_ldI k.g2, c_stI k.g1, c_stI k.g2, c_chkO k.ob, e0]
  refine mx_bnd (s_clear k hc) ?_
  intro N1 ⟨q1, q2, q3, q4⟩
  have f0 : N1 b 0 = (expl A).1 := by rw [q1 b (by omega)]; exact e0
  simp (disch := omega) only [c_bnd, c_chk, c_lb0, c_lb1, c_lb2, c_lb3, L0, L1, L2, L10007, nI_add, pk_mul, ile_t, ile_f, ilt_t, ilt_f, ieq_t, ieq_f, c_rmI, setF_at, setF_ne, setF_setF, true_and, up1_at, up1_ne, pk_sub, pk_cpy_in, pk_cpy_out, Nat.zero_add, Nat.add_zero, Nat.zero_mul, Nat.sub_zero, Nat.add_sub_cancel_left, c_gfI h.ob, c_pfI h.ob, c_chkO h.ob, L24, c_gfR h.ob h.rwords, c_gfR h.ob h.rweights, c_gfR h.ob h.rvectors, c_gfR h.ob h.rechelon, c_gfR h.ob h.rparts, c_gfR h.ob h.rpivots, c_gfR h.ob h.rimages, c_gfR h.ob h.rtrial, c_gfR h.ob h.rrest, c_gfR h.ob h.rcoords, c_ldI h.gwords, c_stI h.gwords, c_ldI h.gweights, c_stI h.gweights, c_ldI h.gpivots, c_stI h.gpivots, c_ldI h.gtrial, c_stI h.gtrial, c_ldI h.grest, c_stI h.grest, c_ldI h.gcoords, c_stI h.gcoords, c_gfI k.ob, c_pfI k.ob, c_gfR k.ob k.r1, c_gfR k.ob k.r2, c_gfR k.ob k.r3, c_ldI k.g1, c_ldI k.g2, c_stI k.g1, c_stI k.g2, c_chkO k.ob, f0, c_cpI h.gweights k.g2]
  let inv : (Nat → Prop) → (Nat → Nat → Prop) → Mem → Prop := fun P p N' => frA N N' r (r + 6) ∧ N' r 0 = (expl A).1 ∧ (∀ i, i < (expl A).1 → P i → N' (r + 1) i = (redA A).2.1 i) ∧ (∀ i, i < (expl A).1 → N' (r + 2) i = (redA A).2.2.1 i) ∧ ∀ l i j, l < 2 → i < (expl A).1 → j < (expl A).1 → p l i → N' (r + 4 + l) (i * (expl A).1 + j) = (redA A).2.2.2 l i j
  refine mx_lb0 (mx_for (fun c N' => inv (fun i => i < c) (fun _ i => i < c) N') (s := 0) (e := (expl A).1) (by omega) (by omega) ⟨q1.trans (frA.set (by omega) (by omega)), ?_, fun i _ e => absurd e (by omega), fun i hi => ?_, fun l i j _ _ _ e => absurd e (by omega)⟩ ?_ ?_) ?_
  · simp (disch := omega) only [c_bnd, c_chk, c_lb0, c_lb1, c_lb2, c_lb3, L0, L1, L2, L10007, nI_add, pk_mul, ile_t, ile_f, ilt_t, ilt_f, ieq_t, ieq_f, c_rmI, setF_at, setF_ne, setF_setF, true_and, up1_at, up1_ne, pk_sub, pk_cpy_in, pk_cpy_out, Nat.zero_add, Nat.add_zero, Nat.zero_mul, Nat.sub_zero, Nat.add_sub_cancel_left, q2]
  · simp (disch := omega) only [c_bnd, c_chk, c_lb0, c_lb1, c_lb2, c_lb3, L0, L1, L2, L10007, nI_add, pk_mul, ile_t, ile_f, ilt_t, ilt_f, ieq_t, ieq_f, c_rmI, setF_at, setF_ne, setF_setF, true_and, up1_at, up1_ne, pk_sub, pk_cpy_in, pk_cpy_out, Nat.zero_add, Nat.add_zero, Nat.zero_mul, Nat.sub_zero, Nat.add_sub_cancel_left]
    rw [q1 _ (by omega), hW i hi]
    unfold redA
    rfl
  · intro c N2 _ hcc ⟨r1, r2, r3, r4, r5⟩
    have g0 : N2 b 0 = (expl A).1 := by rw [r1 b (by omega)]; exact e0
    have hini : (redA A).2.1 c = if c = 0 then 1 else 0 := by unfold redA; rfl
    have main : ∀ z, z < 2 → z = (redA A).2.1 c → Mx (f_X1_build_B27_L49 Γ b r (nI c) (nI z) (nI c) (r + 1) (cS N2 R J)) (fun σ => .inl (nI (c + 1), σ)) R J (inv (fun i => i < c + 1) (fun _ i => i < c + 1)) := by
      intro z hz hz2
      unfold f_X1_build_B27_L49
      simp (disch := omega) only [c_bnd, c_chk, c_lb0, c_lb1, c_lb2, c_lb3, L0, L1, L2, L10007, nI_add, pk_mul, ile_t, ile_f, ilt_t, ilt_f, ieq_t, ieq_f, c_rmI, setF_at, setF_ne, setF_setF, true_and, up1_at, up1_ne, pk_sub, pk_cpy_in, pk_cpy_out, Nat.zero_add, Nat.add_zero, Nat.zero_mul, Nat.sub_zero, Nat.add_sub_cancel_left, c_gfI k.ob, c_pfI k.ob, c_gfR k.ob k.r1, c_gfR k.ob k.r2, c_gfR k.ob k.r3, c_ldI k.g1, c_ldI k.g2, c_stI k.g1, c_stI k.g2, c_chkO k.ob]
      refine mx_lb0 (mx_for (fun l N' => inv (fun i => i < c + 1) (fun l' i => i < c ∨ i = c ∧ l' < l) N') (s := 0) (e := 2) (by omega) (by omega) ⟨r1.trans (frA.set (by omega) (by omega)), ?_, fun i hi e => ?_, fun i hi => ?_, fun l i j hl hi hj e => ?_⟩ ?_ ?_) ?_
      · simp (disch := omega) only [c_bnd, c_chk, c_lb0, c_lb1, c_lb2, c_lb3, L0, L1, L2, L10007, nI_add, pk_mul, ile_t, ile_f, ilt_t, ilt_f, ieq_t, ieq_f, c_rmI, setF_at, setF_ne, setF_setF, true_and, up1_at, up1_ne, pk_sub, pk_cpy_in, pk_cpy_out, Nat.zero_add, Nat.add_zero, Nat.zero_mul, Nat.sub_zero, Nat.add_sub_cancel_left, r2]
      · by_cases e2 : i = c
        · subst e2
          simp (disch := omega) only [c_bnd, c_chk, c_lb0, c_lb1, c_lb2, c_lb3, L0, L1, L2, L10007, nI_add, pk_mul, ile_t, ile_f, ilt_t, ilt_f, ieq_t, ieq_f, c_rmI, setF_at, setF_ne, setF_setF, true_and, up1_at, up1_ne, pk_sub, pk_cpy_in, pk_cpy_out, Nat.zero_add, Nat.add_zero, Nat.zero_mul, Nat.sub_zero, Nat.add_sub_cancel_left, hz2]
        · simp (disch := omega) only [c_bnd, c_chk, c_lb0, c_lb1, c_lb2, c_lb3, L0, L1, L2, L10007, nI_add, pk_mul, ile_t, ile_f, ilt_t, ilt_f, ieq_t, ieq_f, c_rmI, setF_at, setF_ne, setF_setF, true_and, up1_at, up1_ne, pk_sub, pk_cpy_in, pk_cpy_out, Nat.zero_add, Nat.add_zero, Nat.zero_mul, Nat.sub_zero, Nat.add_sub_cancel_left]
          exact r3 i hi (by omega)
      · simp (disch := omega) only [c_bnd, c_chk, c_lb0, c_lb1, c_lb2, c_lb3, L0, L1, L2, L10007, nI_add, pk_mul, ile_t, ile_f, ilt_t, ilt_f, ieq_t, ieq_f, c_rmI, setF_at, setF_ne, setF_setF, true_and, up1_at, up1_ne, pk_sub, pk_cpy_in, pk_cpy_out, Nat.zero_add, Nat.add_zero, Nat.zero_mul, Nat.sub_zero, Nat.add_sub_cancel_left]
        exact r4 i hi
      · simp (disch := omega) only [c_bnd, c_chk, c_lb0, c_lb1, c_lb2, c_lb3, L0, L1, L2, L10007, nI_add, pk_mul, ile_t, ile_f, ilt_t, ilt_f, ieq_t, ieq_f, c_rmI, setF_at, setF_ne, setF_setF, true_and, up1_at, up1_ne, pk_sub, pk_cpy_in, pk_cpy_out, Nat.zero_add, Nat.add_zero, Nat.zero_mul, Nat.sub_zero, Nat.add_sub_cancel_left]
        exact r5 l i j hl hi hj (by omega)
      · intro l N3 _ hl ⟨u1, u2, u3, u4, u5⟩
        have w0 : N3 b 0 = (expl A).1 := by rw [u1 b (by omega)]; exact e0
        have gi := h.2.2.2 (2 * c + l) (by omega)
        have hrl := row_le hcc
        show Mx (f_X1_build_B52 _ _ _ _ _ _) _ _ _ _
        unfold f_X1_build_B52
        simp (disch := omega) only [c_bnd, c_chk, c_lb0, c_lb1, c_lb2, c_lb3, L0, L1, L2, L10007, nI_add, pk_mul, ile_t, ile_f, ilt_t, ilt_f, ieq_t, ieq_f, c_rmI, setF_at, setF_ne, setF_setF, true_and, up1_at, up1_ne, pk_sub, pk_cpy_in, pk_cpy_out, Nat.zero_add, Nat.add_zero, Nat.zero_mul, Nat.sub_zero, Nat.add_sub_cancel_left, c_gfI h.ob, c_pfI h.ob, c_chkO h.ob, L24, c_gfR h.ob h.rwords, c_gfR h.ob h.rweights, c_gfR h.ob h.rvectors, c_gfR h.ob h.rechelon, c_gfR h.ob h.rparts, c_gfR h.ob h.rpivots, c_gfR h.ob h.rimages, c_gfR h.ob h.rtrial, c_gfR h.ob h.rrest, c_gfR h.ob h.rcoords, c_ldI h.gwords, c_stI h.gwords, c_ldI h.gweights, c_stI h.gweights, c_ldI h.gpivots, c_stI h.gpivots, c_ldI h.gtrial, c_stI h.gtrial, c_ldI h.grest, c_stI h.grest, c_ldI h.gcoords, c_stI h.gcoords, c_gfI k.ob, c_pfI k.ob, c_gfR k.ob k.r1, c_gfR k.ob k.r2, c_gfR k.ob k.r3, c_ldI k.g1, c_ldI k.g2, c_stI k.g1, c_stI k.g2, c_chkO k.ob, c_ldG k.g3 (k.rl hl), c_ldI (k.gl hl), c_stI (k.gl hl), w0, c_ldG h.gimages gi.2, c_cpI gi.1 (k.gl hl)]
        refine mx_eq rfl ⟨u1.trans (frA.set (by omega) (by omega)), ?_, fun i hi e => ?_, fun i hi => ?_, fun l' i j hl' hi hj e => ?_⟩
        · simp (disch := omega) only [c_bnd, c_chk, c_lb0, c_lb1, c_lb2, c_lb3, L0, L1, L2, L10007, nI_add, pk_mul, ile_t, ile_f, ilt_t, ilt_f, ieq_t, ieq_f, c_rmI, setF_at, setF_ne, setF_setF, true_and, up1_at, up1_ne, pk_sub, pk_cpy_in, pk_cpy_out, Nat.zero_add, Nat.add_zero, Nat.zero_mul, Nat.sub_zero, Nat.add_sub_cancel_left, u2]
        · simp (disch := omega) only [c_bnd, c_chk, c_lb0, c_lb1, c_lb2, c_lb3, L0, L1, L2, L10007, nI_add, pk_mul, ile_t, ile_f, ilt_t, ilt_f, ieq_t, ieq_f, c_rmI, setF_at, setF_ne, setF_setF, true_and, up1_at, up1_ne, pk_sub, pk_cpy_in, pk_cpy_out, Nat.zero_add, Nat.add_zero, Nat.zero_mul, Nat.sub_zero, Nat.add_sub_cancel_left]
          exact u3 i hi e
        · simp (disch := omega) only [c_bnd, c_chk, c_lb0, c_lb1, c_lb2, c_lb3, L0, L1, L2, L10007, nI_add, pk_mul, ile_t, ile_f, ilt_t, ilt_f, ieq_t, ieq_f, c_rmI, setF_at, setF_ne, setF_setF, true_and, up1_at, up1_ne, pk_sub, pk_cpy_in, pk_cpy_out, Nat.zero_add, Nat.add_zero, Nat.zero_mul, Nat.sub_zero, Nat.add_sub_cancel_left]
          exact u4 i hi
        · by_cases e2 : l' = l
          · subst e2
            simp (disch := omega) only [c_bnd, c_chk, c_lb0, c_lb1, c_lb2, c_lb3, L0, L1, L2, L10007, nI_add, pk_mul, ile_t, ile_f, ilt_t, ilt_f, ieq_t, ieq_f, c_rmI, setF_at, setF_ne, setF_setF, true_and, up1_at, up1_ne, pk_sub, pk_cpy_in, pk_cpy_out, Nat.zero_add, Nat.add_zero, Nat.zero_mul, Nat.sub_zero, Nat.add_sub_cancel_left]
            by_cases e3 : i = c
            · subst e3
              rw [pk_cpy_in (by omega) (by omega), Nat.add_sub_cancel_left, Nat.zero_add, u1 _ (by omega), hM _ (by omega) j (by omega), show (2 * i + l') % 2 = l' by omega, show (2 * i + l') / 2 = i by omega]
              unfold redA
              rfl
            · have hs := ix_seg (o := 0) (m := (expl A).1) e3 hj (by omega)
              rw [pk_cpy_out (by omega)]
              exact u5 l' i j hl' hi hj (by omega)
          · simp (disch := omega) only [c_bnd, c_chk, c_lb0, c_lb1, c_lb2, c_lb3, L0, L1, L2, L10007, nI_add, pk_mul, ile_t, ile_f, ilt_t, ilt_f, ieq_t, ieq_f, c_rmI, setF_at, setF_ne, setF_setF, true_and, up1_at, up1_ne, pk_sub, pk_cpy_in, pk_cpy_out, Nat.zero_add, Nat.add_zero, Nat.zero_mul, Nat.sub_zero, Nat.add_sub_cancel_left]
            exact u5 l' i j hl' hi hj (by omega)
      · intro N3 _
        show f_X1_build_B52 _ _ _ _ _ _ = _
        unfold f_X1_build_B52
        simp (disch := omega) only [c_bnd, c_chk, c_lb0, c_lb1, c_lb2, c_lb3, L0, L1, L2, L10007, nI_add, pk_mul, ile_t, ile_f, ilt_t, ilt_f, ieq_t, ieq_f, c_rmI, setF_at, setF_ne, setF_setF, true_and, up1_at, up1_ne, pk_sub, pk_cpy_in, pk_cpy_out, Nat.zero_add, Nat.add_zero, Nat.zero_mul, Nat.sub_zero, Nat.add_sub_cancel_left]
      · intro N3 ⟨u1, u2, u3, u4, u5⟩
        exact mx_eq rfl ⟨u1, u2, u3, u4, fun l i j hl hi hj e => u5 l i j hl hi hj (by omega)⟩
    show Mx (f_X1_build_B27 _ _ _ _ _) _ _ _ _
    unfold f_X1_build_B27
    by_cases e : c = 0
    · subst e
      simp (disch := omega) only [c_bnd, c_chk, c_lb0, c_lb1, c_lb2, c_lb3, L0, L1, L2, L10007, nI_add, pk_mul, ile_t, ile_f, ilt_t, ilt_f, ieq_t, ieq_f, c_rmI, setF_at, setF_ne, setF_setF, true_and, up1_at, up1_ne, pk_sub, pk_cpy_in, pk_cpy_out, Nat.zero_add, Nat.add_zero, Nat.zero_mul, Nat.sub_zero, Nat.add_sub_cancel_left, c_gfI h.ob, c_pfI h.ob, c_chkO h.ob, L24, c_gfR h.ob h.rwords, c_gfR h.ob h.rweights, c_gfR h.ob h.rvectors, c_gfR h.ob h.rechelon, c_gfR h.ob h.rparts, c_gfR h.ob h.rpivots, c_gfR h.ob h.rimages, c_gfR h.ob h.rtrial, c_gfR h.ob h.rrest, c_gfR h.ob h.rcoords, c_ldI h.gwords, c_stI h.gwords, c_ldI h.gweights, c_stI h.gweights, c_ldI h.gpivots, c_stI h.gpivots, c_ldI h.gtrial, c_stI h.gtrial, c_ldI h.grest, c_stI h.grest, c_ldI h.gcoords, c_stI h.gcoords, c_gfI k.ob, c_pfI k.ob, c_gfR k.ob k.r1, c_gfR k.ob k.r2, c_gfR k.ob k.r3, c_ldI k.g1, c_ldI k.g2, c_stI k.g1, c_stI k.g2, c_chkO k.ob, g0]
      exact main 1 (by omega) (by rw [hini, if_pos rfl])
    · simp (disch := omega) only [c_bnd, c_chk, c_lb0, c_lb1, c_lb2, c_lb3, L0, L1, L2, L10007, nI_add, pk_mul, ile_t, ile_f, ilt_t, ilt_f, ieq_t, ieq_f, c_rmI, setF_at, setF_ne, setF_setF, true_and, up1_at, up1_ne, pk_sub, pk_cpy_in, pk_cpy_out, Nat.zero_add, Nat.add_zero, Nat.zero_mul, Nat.sub_zero, Nat.add_sub_cancel_left, c_gfI h.ob, c_pfI h.ob, c_chkO h.ob, L24, c_gfR h.ob h.rwords, c_gfR h.ob h.rweights, c_gfR h.ob h.rvectors, c_gfR h.ob h.rechelon, c_gfR h.ob h.rparts, c_gfR h.ob h.rpivots, c_gfR h.ob h.rimages, c_gfR h.ob h.rtrial, c_gfR h.ob h.rrest, c_gfR h.ob h.rcoords, c_ldI h.gwords, c_stI h.gwords, c_ldI h.gweights, c_stI h.gweights, c_ldI h.gpivots, c_stI h.gpivots, c_ldI h.gtrial, c_stI h.gtrial, c_ldI h.grest, c_stI h.grest, c_ldI h.gcoords, c_stI h.gcoords, c_gfI k.ob, c_pfI k.ob, c_gfR k.ob k.r1, c_gfR k.ob k.r2, c_gfR k.ob k.r3, c_ldI k.g1, c_ldI k.g2, c_stI k.g1, c_stI k.g2, c_chkO k.ob, g0]
      exact main 0 (by omega) (by rw [hini, if_neg e])
  · intro N2 ⟨r1, r2, r3, r4, r5⟩
    have g0 : N2 b 0 = (expl A).1 := by rw [r1 b (by omega)]; exact e0
    show f_X1_build_B27 _ _ _ _ _ = _
    unfold f_X1_build_B27
    simp (disch := omega) only [c_bnd, c_chk, c_lb0, c_lb1, c_lb2, c_lb3, L0, L1, L2, L10007, nI_add, pk_mul, ile_t, ile_f, ilt_t, ilt_f, ieq_t, ieq_f, c_rmI, setF_at, setF_ne, setF_setF, true_and, up1_at, up1_ne, pk_sub, pk_cpy_in, pk_cpy_out, Nat.zero_add, Nat.add_zero, Nat.zero_mul, Nat.sub_zero, Nat.add_sub_cancel_left, c_gfI h.ob, c_pfI h.ob, c_chkO h.ob, L24, c_gfR h.ob h.rwords, c_gfR h.ob h.rweights, c_gfR h.ob h.rvectors, c_gfR h.ob h.rechelon, c_gfR h.ob h.rparts, c_gfR h.ob h.rpivots, c_gfR h.ob h.rimages, c_gfR h.ob h.rtrial, c_gfR h.ob h.rrest, c_gfR h.ob h.rcoords, c_ldI h.gwords, c_stI h.gwords, c_ldI h.gweights, c_stI h.gweights, c_ldI h.gpivots, c_stI h.gpivots, c_ldI h.gtrial, c_stI h.gtrial, c_ldI h.grest, c_stI h.grest, c_ldI h.gcoords, c_stI h.gcoords, g0]
  · intro N2 ⟨r1, r2, r3, r4, r5⟩
    refine mx_eq rfl ⟨r1, by rw [hn]; exact r2, fun i hi => ?_⟩
    rw [hn] at hi ⊢
    exact ⟨r3 i hi hi, r4 i hi, fun j l hj hl => r5 l i j hl hi hj hi⟩
/-- frames of two regions -/
def fr2 (N N' : Mem) (lo hi lo2 hi2 : Nat) : Prop := ∀ x, x < lo ∨ hi ≤ x → x < lo2 ∨ hi2 ≤ x → N' x = N x
theorem s_reduce (h : bS Γ R b) (k : auS Γ R a cap) (d : a + 6 ≤ b ∨ b + 131 ≤ a) (hA : cAu N a A) (hc : A.1 ≤ cap) (ok : okA A) : Mx (f_X1_reduce Γ b a (cS N R J)) (fun σ => ((), σ)) R J (fun N' => fr2 N N' b (b + 131) a (a + 6) ∧ cAu N' a (redA A)) := by
  have hc24 := k.c24
  have hle := bI_le (expl_I ok)
  unfold f_X1_reduce
  simp (disch := omega) only [c_bnd, c_chk, c_lb0, c_lb1, c_lb2, c_lb3, L0, L1, L2, L10007, nI_add, pk_mul, ile_t, ile_f, ilt_t, ilt_f, ieq_t, ieq_f, c_rmI, setF_at, setF_ne, setF_setF, true_and, up1_at, up1_ne, pk_sub, pk_cpy_in, pk_cpy_out, Nat.zero_add, Nat.add_zero, Nat.zero_mul, Nat.sub_zero, Nat.add_sub_cancel_left, c_gfI h.ob, c_pfI h.ob, c_chkO h.ob, L24, c_gfR h.ob h.rwords, c_gfR h.ob h.rweights, c_gfR h.ob h.rvectors, c_gfR h.ob h.rechelon, c_gfR h.ob h.rparts, c_gfR h.ob h.rpivots, c_gfR h.ob h.rimages, c_gfR h.ob h.rtrial, c_gfR h.ob h.rrest, c_gfR h.ob h.rcoords, c_ldI h.gwords, c_stI h.gwords, c_ldI h.gweights, c_stI h.gweights, c_ldI h.gpivots, c_stI h.gpivots, c_ldI h.gtrial, c_stI h.gtrial, c_ldI h.grest, c_stI h.grest, c_ldI h.gcoords, c_stI h.gcoords]
  refine mx_bnd (s_explore h k d hA hc ok) ?_
  intro N1 ⟨p1, p2, p3, p4⟩
  refine mx_bnd (s_build h k d ok (by omega) (by omega) p2 p3 p4) ?_
  intro N2 ⟨q1, q2⟩
  exact mx_eq rfl ⟨fun x e1 e2 => by rw [q1 x e2, p1 x e1], q2⟩
theorem s_minimize (h : bS Γ R b) (k : auS Γ R a cap) (d : a + 6 ≤ b ∨ b + 131 ≤ a) (hA : cAu N a A) (hc : A.1 ≤ cap) (ok : okA A) : Mx (f_X1_minimize Γ b a (cS N R J)) (fun σ => ((), σ)) R J (fun N' => fr2 N N' b (b + 131) a (a + 6) ∧ cAu N' a (minA A)) := by
  have hc24 := k.c24
  unfold f_X1_minimize
  rw [L0]
  let C : Nat → Au := fun i => if i = 0 then A else if i = 1 then revA (redA A) else minA A
  have hC : ∀ i, i < 2 → C (i + 1) = revA (redA (C i)) := by
    intro i hi
    rcases (by omega : i = 0 ∨ i = 1) with rfl | rfl
    · rfl
    · rfl
  have hok : ∀ i, i ≤ 2 → okA (C i) ∧ (C i).1 ≤ cap := by
    intro i hi
    rcases (by omega : i = 0 ∨ i = 1 ∨ i = 2) with rfl | rfl | rfl
    · exact ⟨ok, hc⟩
    · exact ⟨revA_ok (redA_ok ok), Nat.le_trans (redA_le ok) hc⟩
    · exact ⟨minA_ok ok, Nat.le_trans (minA_le ok) hc⟩
  refine mx_lb0 (mx_for (fun i N' => fr2 N N' b (b + 131) a (a + 6) ∧ cAu N' a (C i)) (s := 0) (e := 2) (by omega) (by omega) ⟨fun x _ _ => rfl, hA⟩ ?_ ?_) ?_
  · intro i N1 _ hi ⟨p1, p2⟩
    obtain ⟨o1, o2⟩ := hok i (by omega)
    have hle := bI_le (expl_I o1)
    show Mx (f_X1_minimize_B2 _ _ _ _ _) _ _ _ _
    unfold f_X1_minimize_B2
    simp (disch := omega) only [c_bnd, c_chk, c_lb0, c_lb1, c_lb2, c_lb3, L0, L1, L2, L10007, nI_add, pk_mul, ile_t, ile_f, ilt_t, ilt_f, ieq_t, ieq_f, c_rmI, setF_at, setF_ne, setF_setF, true_and, up1_at, up1_ne, pk_sub, pk_cpy_in, pk_cpy_out, Nat.zero_add, Nat.add_zero, Nat.zero_mul, Nat.sub_zero, Nat.add_sub_cancel_left, c_gfI h.ob, c_pfI h.ob, c_chkO h.ob, L24, c_gfR h.ob h.rwords, c_gfR h.ob h.rweights, c_gfR h.ob h.rvectors, c_gfR h.ob h.rechelon, c_gfR h.ob h.rparts, c_gfR h.ob h.rpivots, c_gfR h.ob h.rimages, c_gfR h.ob h.rtrial, c_gfR h.ob h.rrest, c_gfR h.ob h.rcoords, c_ldI h.gwords, c_stI h.gwords, c_ldI h.gweights, c_stI h.gweights, c_ldI h.gpivots, c_stI h.gpivots, c_ldI h.gtrial, c_stI h.gtrial, c_ldI h.grest, c_stI h.grest, c_ldI h.gcoords, c_stI h.gcoords, c_gfI k.ob, c_pfI k.ob, c_gfR k.ob k.r1, c_gfR k.ob k.r2, c_gfR k.ob k.r3, c_ldI k.g1, c_ldI k.g2, c_stI k.g1, c_stI k.g2, c_chkO k.ob]
    refine mx_bnd (s_explore h k d p2 o2 o1) ?_
    intro N2 ⟨q1, q2, q3, q4⟩
    refine mx_bnd (s_build h k d o1 (by omega) (by omega) q2 q3 q4) ?_
    intro N3 ⟨r1, r2⟩
    refine mx_bnd (s_reverse k r2 (Nat.le_trans (redA_le o1) o2)) ?_
    intro N4 ⟨s1, s2⟩
    refine mx_eq rfl ⟨fun x e1 e2 => by rw [s1 x e2, r1 x e2, q1 x e1, p1 x e1 e2], ?_⟩
    rw [hC i hi]
    exact s2
  · intro N1 _
    show f_X1_minimize_B2 _ _ _ _ _ = _
    unfold f_X1_minimize_B2
    simp (disch := omega) only [c_bnd, c_chk, c_lb0, c_lb1, c_lb2, c_lb3, L0, L1, L2, L10007, nI_add, pk_mul, ile_t, ile_f, ilt_t, ilt_f, ieq_t, ieq_f, c_rmI, setF_at, setF_ne, setF_setF, true_and, up1_at, up1_ne, pk_sub, pk_cpy_in, pk_cpy_out, Nat.zero_add, Nat.add_zero, Nat.zero_mul, Nat.sub_zero, Nat.add_sub_cancel_left]
  · intro N1 q
    exact mx_eq rfl q
end BD
