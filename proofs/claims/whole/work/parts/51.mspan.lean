/-! ===== the model: spans, endsBasis, firstWord ===== -/
theorem nsum_split {a : Nat} {f : Nat → Nat} : ∀ b, nsum (a + b) f = nsum a f + nsum b (fun i => f (a + i)) := by
  intro b
  induction b with
  | zero => rfl
  | succ b ih =>
    show nsum (a + b) f + f (a + b) = nsum a f + (nsum b (fun i => f (a + i)) + f (a + b))
    rw [ih]
    omega
theorem stp_sum {X Y : Au} {l : Nat} {v : Nat → Nat} {j : Nat} : stpA (sumA X Y) l v j = if j < X.1 then stpA X l v j else stpA Y l (fun i => v (X.1 + i)) (j - X.1) := by
  show nsum (X.1 + Y.1) _ % 10007 = _
  rw [nsum_split]
  by_cases e : j < X.1
  · rw [if_pos e]
    have e1 : nsum Y.1 (fun i => v (X.1 + i) * (sumA X Y).2.2.2 l (X.1 + i) j) = 0 := nsum_zero (fun i _ => by
      show v (X.1 + i) * (if X.1 + i < X.1 ∧ j < X.1 then _ else if X.1 ≤ X.1 + i ∧ X.1 ≤ j then _ else 0) = 0
      rw [if_neg (by omega), if_neg (by omega), Nat.mul_zero])
    rw [e1, Nat.add_zero]
    exact congrArg (· % 10007) (nsum_congr (fun i hi => by
      show v i * (if i < X.1 ∧ j < X.1 then _ else _) = _
      rw [if_pos ⟨hi, e⟩]))
  · rw [if_neg e]
    have e1 : nsum X.1 (fun i => v i * (sumA X Y).2.2.2 l i j) = 0 := nsum_zero (fun i hi => by
      show v i * (if i < X.1 ∧ j < X.1 then _ else if X.1 ≤ i ∧ X.1 ≤ j then _ else 0) = 0
      rw [if_neg (by omega), if_neg (by omega), Nat.mul_zero])
    rw [e1, Nat.zero_add]
    exact congrArg (· % 10007) (nsum_congr (fun i hi => by
      show v (X.1 + i) * (if X.1 + i < X.1 ∧ j < X.1 then _ else if X.1 ≤ X.1 + i ∧ X.1 ≤ j then _ else 0) = _
      rw [if_neg (by omega), if_pos (by omega), Nat.add_sub_cancel_left]))
def spS (N : Mem) (p x : Nat) (a2 : Int32) (X S : Au) : Prop := x < 26 ∧ mAu N p x X ∧ X.1 ≤ 12 ∧ okA X ∧ ((a2 = -1 ∧ S = X) ∨ ∃ y Y, y < 26 ∧ a2 = nI y ∧ mAu N p y Y ∧ Y.1 ≤ 12 ∧ okA Y ∧ S = sumA X Y)
theorem spS.eq {N N' : Mem} {p x : Nat} {a2 : Int32} {X S : Au} (h : spS N p x a2 X S) (e : N' (p + 1) = N (p + 1)) : spS N' p x a2 X S := by
  obtain ⟨h1, h2, h3, h4, h5⟩ := h
  refine ⟨h1, h2.eq e, h3, h4, ?_⟩
  rcases h5 with h5 | ⟨y, Y, a, b, c, d⟩
  · exact Or.inl h5
  · exact Or.inr ⟨y, Y, a, b, c.eq e, d⟩
theorem spS.ok {N : Mem} {p x : Nat} {a2 : Int32} {X S : Au} (h : spS N p x a2 X S) : S.1 ≤ 24 ∧ okA S := by
  obtain ⟨h1, h2, h3, h4, h5⟩ := h
  rcases h5 with ⟨_, rfl⟩ | ⟨y, Y, a, b, c, d, e, rfl⟩
  · exact ⟨by omega, h4⟩
  · exact ⟨(by show X.1 + Y.1 ≤ 24; omega), sumA_ok h4 e⟩
theorem nI_nm1 {y : Nat} (h : y < 26) : ¬ nI y = (-1 : Int32) := fun q => by
  have h0 : ¬ nI y < (0 : Int32) := nI_pos (by omega)
  rw [q] at h0
  exact h0 (by decide)
section ME
variable {Γ : zSh} {N : Mem} {R : Mem} {J : Nat → Nat → Int64} {p q x l : Nat} {a2 : Int32} {X S : Au} {v : Nat → Nat}
theorem m_step2 (h : mS Γ R p) (hs : spS N p x a2 X S) (hv : ∀ j, j < S.1 → N (p + 3) j = v j) (hv2 : ∀ j, j < S.1 → v j < 10007) (hl : l < 2) {β : Type} {K : zSt → Option β} {W : zSt → β} {Q : Mem → Prop} (k : ∀ N', frA N N' (p + 3) (p + 5) → (∀ j, j < S.1 → N' (p + 3) j = stpA S l v j) → Mx (K (cS N' R J)) W R J Q) : Mx (bnd (f_X7_passes Γ p (nI x) 0 (nI l) (cS N R J)) fun _ σ10 => if a2 = (-1) then K σ10 else (chk (isO Γ p 7) <| bnd (f_X7_many Γ p (nI x) σ10) fun r15 σ14 => chk (isO Γ p 7) <| bnd (f_X7_passes Γ p a2 r15 (nI l) σ14) fun _ σ16 => K σ16)) W R J Q := by
  obtain ⟨h1, h2, h3, h4, h5⟩ := hs
  have hX : X.1 ≤ S.1 := by
    rcases h5 with ⟨_, rfl⟩ | ⟨y, Y, a, b, c, d, e, rfl⟩
    · exact Nat.le_refl _
    · exact Nat.le_add_right _ _
  rw [L0]
  refine mx_bnd (m_passes h h1 h2 h3 h4 (o := 0) (l := l) (by omega) (by omega) (fun i hi => by rw [Nat.zero_add, hv i (by omega)]; exact hv2 i (by omega))) ?_
  intro N1 ⟨r1, r2⟩
  have hstp : ∀ j, stpB X l (fun i => N (p + 3) (0 + i)) j = stpA X l v j := by
    intro j
    unfold stpB
    rw [if_neg (by omega)]
    exact stpA_congr (fun i hi => by rw [Nat.zero_add]; exact hv i (by omega))
  rcases h5 with ⟨e1, e2⟩ | ⟨y, Y, a, b, c, d, e, e2⟩
  · subst e2
    rw [if_pos e1]
    refine k N1 r1 (fun j hj => ?_)
    rw [r2 j, if_pos (by omega), Nat.sub_zero, hstp]
  · subst e2
    subst b
    have hn : (sumA X Y).1 = X.1 + Y.1 := rfl
    have f0 := (h2.frA r1 (by omega)).1
    rw [if_neg (nI_nm1 a), c_chkO h.ob, m_many h h1, f0, c_bnd, c_chkO h.ob]
    have hrow : ∀ i, i < Y.1 → N1 (p + 3) (X.1 + i) = v (X.1 + i) := fun i hi => by
      rw [r2, if_neg (by omega), hv _ (by omega)]
    refine mx_bnd (m_passes h a (c.frA r1 (by omega)) d e (o := X.1) (l := l) (by omega) (by omega) (fun i hi => by rw [hrow i hi]; exact hv2 _ (by omega))) ?_
    intro N2 ⟨s1, s2⟩
    refine k N2 (r1.trans s1) (fun j hj => ?_)
    rw [stp_sum, s2 j]
    by_cases e3 : j < X.1
    · rw [if_neg (by omega), if_pos e3, r2 j, if_pos (by omega), Nat.sub_zero, hstp]
    · rw [if_pos (by omega), if_neg e3]
      unfold stpB
      rw [if_neg (by omega)]
      exact stpA_congr hrow
theorem m_spans (h : mS Γ R p) (hs : spS N p x a2 X S) : Mx (f_X7_spans Γ p (nI x) a2 (cS N R J)) (fun σ => ((), σ)) R J (fun N' => frM N N' p ∧ mBs N' p S.1 (expl S)) := by
  obtain ⟨h24, ok⟩ := hs.ok
  have hs0 := hs
  obtain ⟨h1, h2, h3, h4, h5⟩ := hs
  -- what comes behind the first row
  have tail : ∀ N1, frM N N1 p → N1 p 12 = 0 → (∀ j, j < S.1 → N1 (p + 3) j = S.2.1 j) → Mx (f_X7_spans_L47 Γ p (nI x) a2 (nI S.1) (cS N1 R J)) (fun σ => ((), σ)) R J (fun N' => frM N N' p ∧ mBs N' p S.1 (expl S)) := by
    intro N1 r1 r2 r3
    unfold f_X7_spans_L47
    rw [c_chkO h.ob, L0]
    refine mx_bnd (m_offers h h24 (bs0_I) ⟨r2, fun i hi => absurd hi (Nat.not_lt_zero i)⟩ r3 (fun j hj => (ok j hj).1)) ?_
    intro N2 ⟨s1, s2⟩
    refine mx_lb0 (mx_while (fun k N' => frM N N' p ∧ mBs N' p S.1 (exl S (2 * k))) (fun N' => frM N N' p ∧ mBs N' p S.1 (expl S)) 24 (by omega) ⟨r1.trans s1, s2⟩ ?_) ?_
    · intro c N3 hcc ⟨t1, t2⟩
      have hle := bI_le (exl_I ok (2 * c))
      have f0 := t2.1
      by_cases e : (exl S (2 * c)).1 ≤ c
      · have hfin : exl S (2 * c) = expl S := exl_fin ok h24 (by omega)
        refine Or.inr ⟨?_, t1, by rw [← hfin]; exact t2⟩
        show f_X7_spans_B56 _ _ _ _ _ _ _ = _
        unfold f_X7_spans_B56
        simp (disch := omega) only [c_bnd, c_chk, c_lb0, c_lb1, c_lb2, c_lb3, L0, L1, L2, L10007, nI_add, pk_mul, ile_t, ile_f, ilt_t, ilt_f, ieq_t, ieq_f, c_rmI, setF_at, setF_ne, setF_setF, true_and, up1_at, up1_ne, pk_sub, pk_cpy_in, pk_cpy_out, Nat.zero_add, Nat.add_zero, Nat.zero_mul, Nat.sub_zero, Nat.add_sub_cancel_left, c_gfI h.ob, f0]
      · refine Or.inl ⟨by omega, ?_⟩
        show Mx (f_X7_spans_B56 _ _ _ _ _ _ _) _ _ _ _
        unfold f_X7_spans_B56
        rw [c_gfI h.ob, f0, ile_f (by omega) (by omega), L0]
        refine mx_lb0 (mx_for (fun l N' => frM N N' p ∧ mBs N' p S.1 (exl S (2 * c + l))) (s := 0) (e := 2) (by omega) (by omega) ⟨t1, t2⟩ ?_ ?_) ?_
        · intro l N4 _ hl ⟨u1, u2⟩
          have hx := exl_ext (A := S) (t := 2 * c) l
          have hcl : c < (exl S (2 * c + l)).1 := by
            have := hx.1
            omega
          have hle2 := bI_le (exl_I ok (2 * c + l))
          have d2 : (2 * c + l) / 2 = c := by omega
          have d3 : (2 * c + l) % 2 = l := by omega
          have hst : exl S (2 * c + l + 1) = plc S.1 (exl S (2 * c + l)) (stpA S l ((exl S (2 * c + l)).2.2.2.1 c)) (2 * (exl S (2 * c + l)).2.1 c + 1 + l) := by
            rw [exl, d2, d3, if_pos hcl]
          obtain ⟨w1, w2, w3, w4⟩ := u2.2 c hcl
          show Mx (f_X7_spans_B68 _ _ _ _ _ _ _ _) _ _ _ _
          unfold f_X7_spans_B68
          rw [L2, ile_f (by omega) (by omega), c_chkO h.ob]
          refine mx_bnd (m_laysBasis h (by omega) h24) ?_
          intro N5 ⟨x1, x2⟩
          have hs5 : spS N5 p x a2 X S := (hs0.eq u1.pool).eq (x1 _ (by omega))
          rw [c_chkO h.ob]
          refine m_step2 h hs5 (v := (exl S (2 * c + l)).2.2.2.1 c) (fun j hj => by rw [x2 j, if_pos hj]; exact (w3 j hj).1) (fun j hj => (exl_I ok (2 * c + l)).2.1 c j hcl hj) hl ?_
          intro N6 y1 y2
          have hb6 : mBs N6 p S.1 (exl S (2 * c + l)) := u2.of (by rw [y1 p (by omega), x1 p (by omega)]) (fun z a b => by rw [y1 z (by omega), x1 z (by omega)])
          have f9 : N6 (p + 9) c = (exl S (2 * c + l)).2.1 c := (hb6.2 c hcl).1
          unfold f_X7_spans_B68_L106
          simp (disch := omega) only [c_bnd, c_chk, c_lb0, c_lb1, c_lb2, c_lb3, L0, L1, L2, L10007, nI_add, pk_mul, ile_t, ile_f, ilt_t, ilt_f, ieq_t, ieq_f, c_rmI, setF_at, setF_ne, setF_setF, true_and, up1_at, up1_ne, pk_sub, pk_cpy_in, pk_cpy_out, Nat.zero_add, Nat.add_zero, Nat.zero_mul, Nat.sub_zero, Nat.add_sub_cancel_left, c_gfI h.ob, c_pfI h.ob, c_chkO h.ob, c_gfR h.ob h.rpool, c_ldI h.gpool, c_stI h.gpool, m_iAt, m_fAt, m_at, m_many h, L12, L13, L25, L144, L313, c_gfR h.ob h.rwords, c_ldI h.gwords, c_stI h.gwords, f9]
          refine mx_bnd (m_offers h h24 (exl_I ok (2 * c + l)) hb6 y2 (fun j _ => stpA_lt)) ?_
          intro N7 ⟨z1, z2⟩
          rw [← hst] at z2
          exact mx_eq rfl ⟨u1.trans ((frM.of x1 (by omega) (by omega)).trans ((frM.of y1 (by omega) (by omega)).trans z1)), z2⟩
        · intro N4 _
          show f_X7_spans_B68 _ _ _ _ _ _ _ _ = _
          unfold f_X7_spans_B68
          simp (disch := omega) only [c_bnd, c_chk, c_lb0, c_lb1, c_lb2, c_lb3, L0, L1, L2, L10007, nI_add, pk_mul, ile_t, ile_f, ilt_t, ilt_f, ieq_t, ieq_f, c_rmI, setF_at, setF_ne, setF_setF, true_and, up1_at, up1_ne, pk_sub, pk_cpy_in, pk_cpy_out, Nat.zero_add, Nat.add_zero, Nat.zero_mul, Nat.sub_zero, Nat.add_sub_cancel_left]
        · intro N4 ⟨u1, u2⟩
          rw [L1, nI_add]
          refine mx_eq rfl ⟨u1, ?_⟩
          rw [show 2 * (c + 1) = 2 * c + 2 by omega]
          exact u2
    · intro N3 t
      exact mx_eq rfl t
  have f0 := h2.1
  unfold f_X7_spans
  rw [c_chkO h.ob, m_many h h1, f0, c_bnd]
  have hp12 : frM N (setF N p (up1 (N p) 12 0)) p := ⟨fun z a b => setF_ne a, fun i hi => by rw [setF_at, up1_ne hi]⟩
  have hX1 : mAu (setF N p (up1 (N p) 12 0)) p x X := h2.eq hp12.pool
  rcases h5 with ⟨e1, e2⟩ | ⟨y, Y, a, b, c, d, e, e2⟩
  · subst e2
    rw [if_pos e1]
    unfold f_X7_spans_L19
    rw [L0, c_pfI h.ob, c_chkO h.ob]
    refine mx_bnd (m_lays h h1 hX1 h3 (o := 0) (by omega)) ?_
    intro N1 ⟨r1, r2⟩
    rw [if_pos e1, nI_add, Nat.add_zero]
    exact tail N1 (hp12.trans (frM.of r1 (by omega) (by omega))) (by rw [r1 p (by omega), setF_at, up1_at]) (fun j hj => by rw [r2 j, if_pos (by omega), Nat.sub_zero])
  · subst e2
    subst b
    have hn : (sumA X Y).1 = X.1 + Y.1 := rfl
    have hY1 : mAu (setF N p (up1 (N p) 12 0)) p y Y := c.eq hp12.pool
    rw [if_neg (nI_nm1 a), c_chkO h.ob, m_many h a, c.1, c_bnd]
    unfold f_X7_spans_L19
    rw [L0, c_pfI h.ob, c_chkO h.ob]
    refine mx_bnd (m_lays h h1 hX1 h3 (o := 0) (by omega)) ?_
    intro N1 ⟨r1, r2⟩
    have g0 := (hX1.frA r1 (by omega)).1
    rw [if_neg (nI_nm1 a), c_chkO h.ob, m_many h h1, g0, c_bnd, c_chkO h.ob]
    refine mx_bnd (m_lays h a (hY1.frA r1 (by omega)) d (o := X.1) h3) ?_
    intro N2 ⟨s1, s2⟩
    rw [nI_add]
    refine tail N2 (hp12.trans ((frM.of r1 (by omega) (by omega)).trans (frM.of s1 (by omega) (by omega)))) (by rw [s1 p (by omega), r1 p (by omega), setF_at, up1_at]) (fun j hj => ?_)
    rw [s2 j]
    show _ = if j < X.1 then _ else _
    by_cases e3 : j < X.1
    · rw [if_neg (by omega), if_pos e3, r2 j, if_pos (by omega), Nat.sub_zero]
    · rw [if_pos (by omega), if_neg e3]
/-- what a basis row comes to at the end, in one automaton or in two -/
def endV (a2 : Int32) (X S : Au) (v : Nat → Nat) : Nat := if a2 = -1 then wtA X v else (wtA X v + (10007 - (nsum (S.1 - X.1) (fun i => v (X.1 + i) * S.2.2.1 (X.1 + i)) % 10007))) % 10007
theorem m_endsBasis (h : mS Γ R p) (hs : spS N p x a2 X S) {B : Bs} (hB : mBs N p S.1 B) (hI : bI S.1 B) {r : Nat} (hr : r < B.1) : Mx (f_X7_endsBasis Γ p (nI r) (nI x) a2 (cS N R J)) (fun σ => (nI (endV a2 X S (B.2.2.2.1 r)), σ)) R J (fun N' => frA N N' (p + 3) (p + 4)) := by
  obtain ⟨h24, ok⟩ := hs.ok
  obtain ⟨h1, h2, h3, h4, h5⟩ := hs
  have hle := bI_le hI
  have hX : X.1 ≤ S.1 := by
    rcases h5 with ⟨_, rfl⟩ | ⟨y, Y, a, b, c, d, e, rfl⟩
    · exact Nat.le_refl _
    · exact Nat.le_add_right _ _
  have hv2 := fun j hj => hI.2.1 r j hr hj
  obtain ⟨w1, w2, w3, w4⟩ := hB.2 r hr
  unfold f_X7_endsBasis
  rw [c_chkO h.ob, L24]
  refine mx_bnd (m_laysBasis h (by omega) (w := 24) (by omega)) ?_
  intro N1 ⟨x1, x2⟩
  have hX1 := h2.frA x1 (by omega)
  have hrow : ∀ j, j < S.1 → N1 (p + 3) j = B.2.2.2.1 r j := fun j hj => by rw [x2 j, if_pos (by omega)]; exact (w3 j hj).1
  rw [c_chkO h.ob, L0, m_ends h h1 hX1 h3 h4 (o := 0) (by omega) (fun i hi => by rw [Nat.zero_add, hrow i (by omega)]; exact hv2 i (by omega)), c_bnd]
  rw [wtA_congr (v := fun i => N1 (p + 3) (0 + i)) (w := B.2.2.2.1 r) (fun i hi => by show N1 (p + 3) (0 + i) = _; rw [Nat.zero_add]; exact hrow i (by omega))]
  have hw := wtA_lt (A := X) (v := B.2.2.2.1 r)
  rcases h5 with ⟨e1, e2⟩ | ⟨y, Y, a, b, c, d, e, e2⟩
  · rw [if_pos e1]
    unfold f_X7_endsBasis_L36 endV
    rw [if_pos e1, nI_add, Nat.add_zero, L10007, c_rmI (by omega) (by omega) (by omega), Nat.mod_eq_of_lt hw]
    exact mx_eq rfl x1
  · subst e2
    subst b
    have hn : (sumA X Y).1 = X.1 + Y.1 := rfl
    have g0 := hX1.1
    have hw2 := wtA_lt (A := Y) (v := fun i => N1 (p + 3) (X.1 + i))
    rw [if_neg (nI_nm1 a), c_chkO h.ob, m_many h h1, g0, c_bnd, c_chkO h.ob, m_ends h a (c.frA x1 (by omega)) d e (o := X.1) h3 (fun i hi => by rw [hrow _ (by omega)]; exact hv2 _ (by omega)), c_bnd]
    unfold f_X7_endsBasis_L36 endV
    rw [if_neg (nI_nm1 a), L10007, pk_sub (by omega), nI_add, c_rmI (by omega) (by omega) (by omega)]
    have : wtA Y (fun i => N1 (p + 3) (X.1 + i)) = nsum ((sumA X Y).1 - X.1) (fun i => B.2.2.2.1 r (X.1 + i) * (sumA X Y).2.2.1 (X.1 + i)) % 10007 := by
      rw [hn, Nat.add_sub_cancel_left]
      exact congrArg (· % 10007) (nsum_congr (fun i hi => by
        show N1 (p + 3) (X.1 + i) * _ = _ * (if X.1 + i < X.1 then _ else _)
        rw [hrow _ (by omega), if_neg (by omega), Nat.add_sub_cancel_left]))
    rw [this]
    exact mx_eq rfl x1
end ME
