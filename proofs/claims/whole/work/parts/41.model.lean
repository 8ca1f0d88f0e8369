/-! ===== the model: reversal, blocks, sums ===== -/
def pD (N0 N : Mem) (p q : Nat) (A : Au) (PI PF : Nat → Prop) (PM : Nat → Nat → Nat → Prop) : Prop := frP N0 N p (313 * q) (313 * q + 313) ∧ N (p + 1) (313 * q) = A.1 ∧ (∀ i, i < A.1 → PI i → N (p + 1) (313 * q + 1 + i) = A.2.1 i) ∧ (∀ i, i < A.1 → PF i → N (p + 1) (313 * q + 13 + i) = A.2.2.1 i) ∧ ∀ l i j, l < 2 → i < A.1 → j < A.1 → PM l i j → N (p + 1) (313 * q + 25 + 144 * l + 12 * i + j) = A.2.2.2 l i j
theorem pD.mono {N0 N : Mem} {p q : Nat} {A : Au} {PI PF QI QF : Nat → Prop} {PM QM : Nat → Nat → Nat → Prop} (h : pD N0 N p q A PI PF PM) (h1 : ∀ i, i < A.1 → QI i → PI i) (h2 : ∀ i, i < A.1 → QF i → PF i) (h3 : ∀ l i j, l < 2 → i < A.1 → j < A.1 → QM l i j → PM l i j) : pD N0 N p q A QI QF QM :=
  ⟨h.1, h.2.1, fun i a b => h.2.2.1 i a (h1 i a b), fun i a b => h.2.2.2.1 i a (h2 i a b), fun l i j a b c d => h.2.2.2.2 l i j a b c (h3 l i j a b c d)⟩
theorem pD.toAu {N0 N : Mem} {p q : Nat} {A : Au} {PI PF : Nat → Prop} {PM : Nat → Nat → Nat → Prop} (h : pD N0 N p q A PI PF PM) (h1 : ∀ i, i < A.1 → PI i) (h2 : ∀ i, i < A.1 → PF i) (h3 : ∀ l i j, l < 2 → i < A.1 → j < A.1 → PM l i j) : mAu N p q A :=
  ⟨h.2.1, fun i a => ⟨h.2.2.1 i a (h1 i a), h.2.2.2.1 i a (h2 i a), fun j l b c => h.2.2.2.2 l i j c a b (h3 l i j c a b)⟩⟩
theorem pD.start {N0 N : Mem} {p q : Nat} {A : Au} (h : frP N0 N p (313 * q) (313 * q + 313)) (hn : N (p + 1) (313 * q) = A.1) (hz : ∀ z, 0 < z → z < 313 → N (p + 1) (313 * q + z) = 0) (hA : A.1 ≤ 12) : pD N0 N p q A (fun i => A.2.1 i = 0) (fun i => A.2.2.1 i = 0) (fun l i j => A.2.2.2 l i j = 0) := by
  refine ⟨h, hn, fun i a b => ?_, fun i a b => ?_, fun l i j a b c d => ?_⟩
  · rw [b, Nat.add_assoc]; exact hz _ (by omega) (by omega)
  · rw [b, Nat.add_assoc]; exact hz _ (by omega) (by omega)
  · rw [d, show 313 * q + 25 + 144 * l + 12 * i + j = 313 * q + (25 + 144 * l + 12 * i + j) by omega]; exact hz _ (by omega) (by omega)
section MB
variable {Γ : zSh} {N : Mem} {R : Nat → Nat → Nat} {J : Nat → Nat → Int64} {p q x y n l : Nat} {A X Y : Au}
theorem pD.clears (h : mS Γ R p) (hq : q < 26) (hA : A.1 ≤ 12) : Mx (f_X7_clears Γ p (nI q) (nI A.1) (cS N R J)) (fun σ => ((), σ)) R J (fun N' => pD N N' p q A (fun i => A.2.1 i = 0) (fun i => A.2.2.1 i = 0) (fun l i j => A.2.2.2 l i j = 0)) :=
  mx_mono (m_clears h hq) (fun N' a => pD.start a.1 a.2.1 a.2.2 hA)
theorem m_turns (h : mS Γ R p) (hx : x < 26) (hq : q < 26) (hxq : x ≠ q) (hX : mAu N p x X) (hX12 : X.1 ≤ 12) : Mx (f_X7_turns Γ p (nI x) (nI q) (cS N R J)) (fun σ => ((), σ)) R J (fun N' => frP N N' p (313 * q) (313 * q + 313) ∧ mAu N' p q (revA X)) := by
  have e0 := hX.1
  unfold f_X7_turns
  simp (disch := omega) only [c_bnd, c_chk, c_lb0, c_lb1, c_lb2, c_lb3, L0, L1, L2, L10007, nI_add, pk_mul, ile_t, ile_f, ilt_t, ilt_f, ieq_t, ieq_f, c_rmI, setF_at, setF_ne, setF_setF, true_and, up1_at, up1_ne, pk_sub, pk_cpy_in, pk_cpy_out, Nat.zero_add, Nat.add_zero, Nat.zero_mul, Nat.sub_zero, Nat.add_sub_cancel_left, c_gfI h.ob, c_pfI h.ob, c_chkO h.ob, c_gfR h.ob h.rpool, c_ldI h.gpool, c_stI h.gpool, m_iAt, m_fAt, m_at, m_many h, L12, L13, L25, L144, L313, e0]
  refine mx_bnd (pD.clears (A := revA X) h hq hX12) ?_
  intro N1 d1
  refine mx_lb0 (mx_for (fun c N' => pD N N' p q (revA X) (fun i => i < c) (fun i => i < c) (fun _ i _ => i < c)) (s := 0) (e := X.1) (by omega) (by omega) (d1.mono (fun i _ e => absurd e (by omega)) (fun i _ e => absurd e (by omega)) (fun l i j _ _ _ e => absurd e (by omega))) ?_ ?_) ?_
  · intro c N2 _ hc d2
    have hX2 := hX.fr hX12 d2.1 (by omega)
    have f0 := hX2.1
    have f1 := (hX2.2 c hc).1
    have f2 := (hX2.2 c hc).2.1
    show Mx (f_X7_turns_B12 _ _ _ _ _ _) _ _ _ _
    unfold f_X7_turns_B12
    simp (disch := omega) only [c_bnd, c_chk, c_lb0, c_lb1, c_lb2, c_lb3, L0, L1, L2, L10007, nI_add, pk_mul, ile_t, ile_f, ilt_t, ilt_f, ieq_t, ieq_f, c_rmI, setF_at, setF_ne, setF_setF, true_and, up1_at, up1_ne, pk_sub, pk_cpy_in, pk_cpy_out, Nat.zero_add, Nat.add_zero, Nat.zero_mul, Nat.sub_zero, Nat.add_sub_cancel_left, c_gfI h.ob, c_pfI h.ob, c_chkO h.ob, c_gfR h.ob h.rpool, c_ldI h.gpool, c_stI h.gpool, m_iAt, m_fAt, m_at, m_many h, L12, L13, L25, L144, L313, f0, f1, f2]
    refine mx_lb0 (mx_for (fun b N' => pD N N' p q (revA X) (fun i => i < c + 1) (fun i => i < c + 1) (fun _ i j => i < c ∨ i = c ∧ j < b)) (s := 0) (e := X.1) (by omega) (by omega) ?_ ?_ ?_) ?_
    · refine ⟨d2.1.trans ⟨fun x e => ?_, fun z e => ?_⟩, ?_, fun i a b => ?_, fun i a b => ?_, fun l i j a1 a2 a3 a4 => ?_⟩
      · simp (disch := omega) only [c_bnd, c_chk, c_lb0, c_lb1, c_lb2, c_lb3, L0, L1, L2, L10007, nI_add, pk_mul, ile_t, ile_f, ilt_t, ilt_f, ieq_t, ieq_f, c_rmI, setF_at, setF_ne, setF_setF, true_and, up1_at, up1_ne, pk_sub, pk_cpy_in, pk_cpy_out, Nat.zero_add, Nat.add_zero, Nat.zero_mul, Nat.sub_zero, Nat.add_sub_cancel_left]
      · simp (disch := omega) only [c_bnd, c_chk, c_lb0, c_lb1, c_lb2, c_lb3, L0, L1, L2, L10007, nI_add, pk_mul, ile_t, ile_f, ilt_t, ilt_f, ieq_t, ieq_f, c_rmI, setF_at, setF_ne, setF_setF, true_and, up1_at, up1_ne, pk_sub, pk_cpy_in, pk_cpy_out, Nat.zero_add, Nat.add_zero, Nat.zero_mul, Nat.sub_zero, Nat.add_sub_cancel_left]
      · simp (disch := omega) only [c_bnd, c_chk, c_lb0, c_lb1, c_lb2, c_lb3, L0, L1, L2, L10007, nI_add, pk_mul, ile_t, ile_f, ilt_t, ilt_f, ieq_t, ieq_f, c_rmI, setF_at, setF_ne, setF_setF, true_and, up1_at, up1_ne, pk_sub, pk_cpy_in, pk_cpy_out, Nat.zero_add, Nat.add_zero, Nat.zero_mul, Nat.sub_zero, Nat.add_sub_cancel_left]
        exact d2.2.1
      · have a' : i < X.1 := a
        by_cases e : i = c
        · subst e
          simp (disch := omega) only [c_bnd, c_chk, c_lb0, c_lb1, c_lb2, c_lb3, L0, L1, L2, L10007, nI_add, pk_mul, ile_t, ile_f, ilt_t, ilt_f, ieq_t, ieq_f, c_rmI, setF_at, setF_ne, setF_setF, true_and, up1_at, up1_ne, pk_sub, pk_cpy_in, pk_cpy_out, Nat.zero_add, Nat.add_zero, Nat.zero_mul, Nat.sub_zero, Nat.add_sub_cancel_left]
          rfl
        · simp (disch := omega) only [c_bnd, c_chk, c_lb0, c_lb1, c_lb2, c_lb3, L0, L1, L2, L10007, nI_add, pk_mul, ile_t, ile_f, ilt_t, ilt_f, ieq_t, ieq_f, c_rmI, setF_at, setF_ne, setF_setF, true_and, up1_at, up1_ne, pk_sub, pk_cpy_in, pk_cpy_out, Nat.zero_add, Nat.add_zero, Nat.zero_mul, Nat.sub_zero, Nat.add_sub_cancel_left]
          exact d2.2.2.1 i a (by omega)
      · have a' : i < X.1 := a
        by_cases e : i = c
        · subst e
          simp (disch := omega) only [c_bnd, c_chk, c_lb0, c_lb1, c_lb2, c_lb3, L0, L1, L2, L10007, nI_add, pk_mul, ile_t, ile_f, ilt_t, ilt_f, ieq_t, ieq_f, c_rmI, setF_at, setF_ne, setF_setF, true_and, up1_at, up1_ne, pk_sub, pk_cpy_in, pk_cpy_out, Nat.zero_add, Nat.add_zero, Nat.zero_mul, Nat.sub_zero, Nat.add_sub_cancel_left]
          rfl
        · simp (disch := omega) only [c_bnd, c_chk, c_lb0, c_lb1, c_lb2, c_lb3, L0, L1, L2, L10007, nI_add, pk_mul, ile_t, ile_f, ilt_t, ilt_f, ieq_t, ieq_f, c_rmI, setF_at, setF_ne, setF_setF, true_and, up1_at, up1_ne, pk_sub, pk_cpy_in, pk_cpy_out, Nat.zero_add, Nat.add_zero, Nat.zero_mul, Nat.sub_zero, Nat.add_sub_cancel_left]
          exact d2.2.2.2.1 i a (by omega)
      · have a2' : i < X.1 := a2
        have a3' : j < X.1 := a3
        simp (disch := omega) only [c_bnd, c_chk, c_lb0, c_lb1, c_lb2, c_lb3, L0, L1, L2, L10007, nI_add, pk_mul, ile_t, ile_f, ilt_t, ilt_f, ieq_t, ieq_f, c_rmI, setF_at, setF_ne, setF_setF, true_and, up1_at, up1_ne, pk_sub, pk_cpy_in, pk_cpy_out, Nat.zero_add, Nat.add_zero, Nat.zero_mul, Nat.sub_zero, Nat.add_sub_cancel_left]
        exact d2.2.2.2.2 l i j a1 a2 a3 (by omega)
    · intro b N3 _ hb d3
      have hX3 := hX.fr hX12 d3.1 (by omega)
      have g0 := hX3.1
      have g1 := (hX3.2 b hb).2.2 c 0 hc (by omega)
      have g2 := (hX3.2 b hb).2.2 c 1 hc (by omega)
      show Mx (f_X7_turns_B64 _ _ _ _ _ _ _) _ _ _ _
      unfold f_X7_turns_B64
      simp (disch := omega) only [c_bnd, c_chk, c_lb0, c_lb1, c_lb2, c_lb3, L0, L1, L2, L10007, nI_add, pk_mul, ile_t, ile_f, ilt_t, ilt_f, ieq_t, ieq_f, c_rmI, setF_at, setF_ne, setF_setF, true_and, up1_at, up1_ne, pk_sub, pk_cpy_in, pk_cpy_out, Nat.zero_add, Nat.add_zero, Nat.zero_mul, Nat.sub_zero, Nat.add_sub_cancel_left, c_gfI h.ob, c_pfI h.ob, c_chkO h.ob, c_gfR h.ob h.rpool, c_ldI h.gpool, c_stI h.gpool, m_iAt, m_fAt, m_at, m_many h, L12, L13, L25, L144, L313, g0, g1, g2]
      refine mx_eq rfl ?_
      refine ⟨d3.1.trans ⟨fun x e => ?_, fun z e => ?_⟩, ?_, fun i a b => ?_, fun i a b => ?_, fun l i j a1 a2 a3 a4 => ?_⟩
      · simp (disch := omega) only [c_bnd, c_chk, c_lb0, c_lb1, c_lb2, c_lb3, L0, L1, L2, L10007, nI_add, pk_mul, ile_t, ile_f, ilt_t, ilt_f, ieq_t, ieq_f, c_rmI, setF_at, setF_ne, setF_setF, true_and, up1_at, up1_ne, pk_sub, pk_cpy_in, pk_cpy_out, Nat.zero_add, Nat.add_zero, Nat.zero_mul, Nat.sub_zero, Nat.add_sub_cancel_left]
      · simp (disch := omega) only [c_bnd, c_chk, c_lb0, c_lb1, c_lb2, c_lb3, L0, L1, L2, L10007, nI_add, pk_mul, ile_t, ile_f, ilt_t, ilt_f, ieq_t, ieq_f, c_rmI, setF_at, setF_ne, setF_setF, true_and, up1_at, up1_ne, pk_sub, pk_cpy_in, pk_cpy_out, Nat.zero_add, Nat.add_zero, Nat.zero_mul, Nat.sub_zero, Nat.add_sub_cancel_left]
      · simp (disch := omega) only [c_bnd, c_chk, c_lb0, c_lb1, c_lb2, c_lb3, L0, L1, L2, L10007, nI_add, pk_mul, ile_t, ile_f, ilt_t, ilt_f, ieq_t, ieq_f, c_rmI, setF_at, setF_ne, setF_setF, true_and, up1_at, up1_ne, pk_sub, pk_cpy_in, pk_cpy_out, Nat.zero_add, Nat.add_zero, Nat.zero_mul, Nat.sub_zero, Nat.add_sub_cancel_left]
        exact d3.2.1
      · have a' : i < X.1 := a
        simp (disch := omega) only [c_bnd, c_chk, c_lb0, c_lb1, c_lb2, c_lb3, L0, L1, L2, L10007, nI_add, pk_mul, ile_t, ile_f, ilt_t, ilt_f, ieq_t, ieq_f, c_rmI, setF_at, setF_ne, setF_setF, true_and, up1_at, up1_ne, pk_sub, pk_cpy_in, pk_cpy_out, Nat.zero_add, Nat.add_zero, Nat.zero_mul, Nat.sub_zero, Nat.add_sub_cancel_left]
        exact d3.2.2.1 i a b
      · have a' : i < X.1 := a
        simp (disch := omega) only [c_bnd, c_chk, c_lb0, c_lb1, c_lb2, c_lb3, L0, L1, L2, L10007, nI_add, pk_mul, ile_t, ile_f, ilt_t, ilt_f, ieq_t, ieq_f, c_rmI, setF_at, setF_ne, setF_setF, true_and, up1_at, up1_ne, pk_sub, pk_cpy_in, pk_cpy_out, Nat.zero_add, Nat.add_zero, Nat.zero_mul, Nat.sub_zero, Nat.add_sub_cancel_left]
        exact d3.2.2.2.1 i a b
      · have a2' : i < X.1 := a2
        have a3' : j < X.1 := a3
        by_cases e : i = c ∧ j = b
        · obtain ⟨rfl, rfl⟩ := e
          rcases (by omega : l = 0 ∨ l = 1) with rfl | rfl
          · simp (disch := omega) only [c_bnd, c_chk, c_lb0, c_lb1, c_lb2, c_lb3, L0, L1, L2, L10007, nI_add, pk_mul, ile_t, ile_f, ilt_t, ilt_f, ieq_t, ieq_f, c_rmI, setF_at, setF_ne, setF_setF, true_and, up1_at, up1_ne, pk_sub, pk_cpy_in, pk_cpy_out, Nat.zero_add, Nat.add_zero, Nat.zero_mul, Nat.sub_zero, Nat.add_sub_cancel_left]
            rfl
          · simp (disch := omega) only [c_bnd, c_chk, c_lb0, c_lb1, c_lb2, c_lb3, L0, L1, L2, L10007, nI_add, pk_mul, ile_t, ile_f, ilt_t, ilt_f, ieq_t, ieq_f, c_rmI, setF_at, setF_ne, setF_setF, true_and, up1_at, up1_ne, pk_sub, pk_cpy_in, pk_cpy_out, Nat.zero_add, Nat.add_zero, Nat.zero_mul, Nat.sub_zero, Nat.add_sub_cancel_left]
            rfl
        · have := d3.2.2.2.2 l i j a1 a2 a3 (by omega)
          rcases (by omega : l = 0 ∨ l = 1) with rfl | rfl
          · rw [setF_at, up1_ne (by omega), up1_ne (by omega)]
            exact this
          · rw [setF_at, up1_ne (by omega), up1_ne (by omega)]
            exact this
    · intro N3 d3
      have g0 := (hX.fr hX12 d3.1 (by omega)).1
      show f_X7_turns_B64 _ _ _ _ _ _ _ = _
      unfold f_X7_turns_B64
      simp (disch := omega) only [c_bnd, c_chk, c_lb0, c_lb1, c_lb2, c_lb3, L0, L1, L2, L10007, nI_add, pk_mul, ile_t, ile_f, ilt_t, ilt_f, ieq_t, ieq_f, c_rmI, setF_at, setF_ne, setF_setF, true_and, up1_at, up1_ne, pk_sub, pk_cpy_in, pk_cpy_out, Nat.zero_add, Nat.add_zero, Nat.zero_mul, Nat.sub_zero, Nat.add_sub_cancel_left, c_gfI h.ob, c_pfI h.ob, c_chkO h.ob, c_gfR h.ob h.rpool, c_ldI h.gpool, c_stI h.gpool, m_iAt, m_fAt, m_at, m_many h, L12, L13, L25, L144, L313, g0]
    · intro N3 d3
      refine mx_eq rfl ?_
      exact d3.mono (fun i _ e => e) (fun i _ e => e) (fun l i j _ _ a e => by
        have a' : j < X.1 := a
        omega)
  · intro N2 d2
    have f0 := (hX.fr hX12 d2.1 (by omega)).1
    show f_X7_turns_B12 _ _ _ _ _ _ = _
    unfold f_X7_turns_B12
    simp (disch := omega) only [c_bnd, c_chk, c_lb0, c_lb1, c_lb2, c_lb3, L0, L1, L2, L10007, nI_add, pk_mul, ile_t, ile_f, ilt_t, ilt_f, ieq_t, ieq_f, c_rmI, setF_at, setF_ne, setF_setF, true_and, up1_at, up1_ne, pk_sub, pk_cpy_in, pk_cpy_out, Nat.zero_add, Nat.add_zero, Nat.zero_mul, Nat.sub_zero, Nat.add_sub_cancel_left, c_gfI h.ob, c_pfI h.ob, c_chkO h.ob, c_gfR h.ob h.rpool, c_ldI h.gpool, c_stI h.gpool, m_iAt, m_fAt, m_at, m_many h, L12, L13, L25, L144, L313, f0]
  · intro N2 d2
    refine mx_eq rfl ?_
    exact ⟨d2.1, d2.toAu (fun i a => a) (fun i a => a) (fun l i j _ a _ => a)⟩
/-- a block put into an automaton that has room for it -/
theorem m_blocks (h : mS Γ R p) (hx : x < 26) (hq : q < 26) (hxq : x ≠ q) {N0 : Mem} (hX0 : mAu N0 p x X) {o : Nat} {PI PF : Nat → Prop} {PM : Nat → Nat → Nat → Prop} (hA12 : A.1 ≤ 12) (ho : o + X.1 ≤ A.1) (hb : ∀ l i j, l < 2 → i < X.1 → j < X.1 → A.2.2.2 l (o + i) (o + j) = X.2.2.2 l i j) (d0 : pD N0 N p q A PI PF PM) : Mx (f_X7_blocks Γ p (nI x) (nI q) (nI o) (cS N R J)) (fun σ => ((), σ)) R J (fun N' => pD N0 N' p q A PI PF (fun l i j => PM l i j ∨ (o ≤ i ∧ i < o + X.1) ∧ o ≤ j ∧ j < o + X.1)) := by
  have hX12 : X.1 ≤ 12 := by omega
  unfold f_X7_blocks
  simp (disch := omega) only [c_bnd, c_chk, c_lb0, c_lb1, c_lb2, c_lb3, L0, L1, L2, L10007, nI_add, pk_mul, ile_t, ile_f, ilt_t, ilt_f, ieq_t, ieq_f, c_rmI, setF_at, setF_ne, setF_setF, true_and, up1_at, up1_ne, pk_sub, pk_cpy_in, pk_cpy_out, Nat.zero_add, Nat.add_zero, Nat.zero_mul, Nat.sub_zero, Nat.add_sub_cancel_left, c_gfI h.ob, c_pfI h.ob, c_chkO h.ob, c_gfR h.ob h.rpool, c_ldI h.gpool, c_stI h.gpool, m_iAt, m_fAt, m_at, m_many h, L12, L13, L25, L144, L313]
  refine mx_lb0 (mx_for (fun c N' => pD N0 N' p q A PI PF (fun l i j => PM l i j ∨ (o ≤ i ∧ i < o + c) ∧ o ≤ j ∧ j < o + X.1)) (s := 0) (e := X.1) (by omega) (by omega) (d0.mono (fun i _ e => e) (fun i _ e => e) (fun l i j _ _ _ e => e.elim id (fun e => absurd e (by omega)))) ?_ ?_) ?_
  · intro c N2 _ hc d2
    have hX2 := hX0.fr hX12 d2.1 (by omega)
    have f0 := hX2.1
    show Mx (f_X7_blocks_B3 _ _ _ _ _ _ _) _ _ _ _
    unfold f_X7_blocks_B3
    simp (disch := omega) only [c_bnd, c_chk, c_lb0, c_lb1, c_lb2, c_lb3, L0, L1, L2, L10007, nI_add, pk_mul, ile_t, ile_f, ilt_t, ilt_f, ieq_t, ieq_f, c_rmI, setF_at, setF_ne, setF_setF, true_and, up1_at, up1_ne, pk_sub, pk_cpy_in, pk_cpy_out, Nat.zero_add, Nat.add_zero, Nat.zero_mul, Nat.sub_zero, Nat.add_sub_cancel_left, c_gfI h.ob, c_pfI h.ob, c_chkO h.ob, c_gfR h.ob h.rpool, c_ldI h.gpool, c_stI h.gpool, m_iAt, m_fAt, m_at, m_many h, L12, L13, L25, L144, L313, f0]
    refine mx_lb0 (mx_for (fun b N' => pD N0 N' p q A PI PF (fun l i j => PM l i j ∨ (o ≤ i ∧ i < o + c) ∧ (o ≤ j ∧ j < o + X.1) ∨ i = o + c ∧ o ≤ j ∧ j < o + b)) (s := 0) (e := X.1) (by omega) (by omega) (d2.mono (fun i _ e => e) (fun i _ e => e) (fun l i j _ _ _ e => e.elim Or.inl (fun e => Or.inr (by omega)))) ?_ ?_) ?_
    · intro b N3 _ hbb d3
      have hX3 := hX0.fr hX12 d3.1 (by omega)
      have g0 := hX3.1
      have g1 := (hX3.2 c hc).2.2 b 0 hbb (by omega)
      have g2 := (hX3.2 c hc).2.2 b 1 hbb (by omega)
      show Mx (f_X7_blocks_B16 _ _ _ _ _ _ _ _) _ _ _ _
      unfold f_X7_blocks_B16
      simp (disch := omega) only [c_bnd, c_chk, c_lb0, c_lb1, c_lb2, c_lb3, L0, L1, L2, L10007, nI_add, pk_mul, ile_t, ile_f, ilt_t, ilt_f, ieq_t, ieq_f, c_rmI, setF_at, setF_ne, setF_setF, true_and, up1_at, up1_ne, pk_sub, pk_cpy_in, pk_cpy_out, Nat.zero_add, Nat.add_zero, Nat.zero_mul, Nat.sub_zero, Nat.add_sub_cancel_left, c_gfI h.ob, c_pfI h.ob, c_chkO h.ob, c_gfR h.ob h.rpool, c_ldI h.gpool, c_stI h.gpool, m_iAt, m_fAt, m_at, m_many h, L12, L13, L25, L144, L313, g0, g1, g2]
      refine mx_eq rfl ?_
      refine ⟨d3.1.trans ⟨fun x e => ?_, fun z e => ?_⟩, ?_, fun i a b => ?_, fun i a b => ?_, fun l i j a1 a2 a3 a4 => ?_⟩
      · simp (disch := omega) only [c_bnd, c_chk, c_lb0, c_lb1, c_lb2, c_lb3, L0, L1, L2, L10007, nI_add, pk_mul, ile_t, ile_f, ilt_t, ilt_f, ieq_t, ieq_f, c_rmI, setF_at, setF_ne, setF_setF, true_and, up1_at, up1_ne, pk_sub, pk_cpy_in, pk_cpy_out, Nat.zero_add, Nat.add_zero, Nat.zero_mul, Nat.sub_zero, Nat.add_sub_cancel_left]
      · simp (disch := omega) only [c_bnd, c_chk, c_lb0, c_lb1, c_lb2, c_lb3, L0, L1, L2, L10007, nI_add, pk_mul, ile_t, ile_f, ilt_t, ilt_f, ieq_t, ieq_f, c_rmI, setF_at, setF_ne, setF_setF, true_and, up1_at, up1_ne, pk_sub, pk_cpy_in, pk_cpy_out, Nat.zero_add, Nat.add_zero, Nat.zero_mul, Nat.sub_zero, Nat.add_sub_cancel_left]
      · simp (disch := omega) only [c_bnd, c_chk, c_lb0, c_lb1, c_lb2, c_lb3, L0, L1, L2, L10007, nI_add, pk_mul, ile_t, ile_f, ilt_t, ilt_f, ieq_t, ieq_f, c_rmI, setF_at, setF_ne, setF_setF, true_and, up1_at, up1_ne, pk_sub, pk_cpy_in, pk_cpy_out, Nat.zero_add, Nat.add_zero, Nat.zero_mul, Nat.sub_zero, Nat.add_sub_cancel_left]
        exact d3.2.1
      · simp (disch := omega) only [c_bnd, c_chk, c_lb0, c_lb1, c_lb2, c_lb3, L0, L1, L2, L10007, nI_add, pk_mul, ile_t, ile_f, ilt_t, ilt_f, ieq_t, ieq_f, c_rmI, setF_at, setF_ne, setF_setF, true_and, up1_at, up1_ne, pk_sub, pk_cpy_in, pk_cpy_out, Nat.zero_add, Nat.add_zero, Nat.zero_mul, Nat.sub_zero, Nat.add_sub_cancel_left]
        exact d3.2.2.1 i a b
      · simp (disch := omega) only [c_bnd, c_chk, c_lb0, c_lb1, c_lb2, c_lb3, L0, L1, L2, L10007, nI_add, pk_mul, ile_t, ile_f, ilt_t, ilt_f, ieq_t, ieq_f, c_rmI, setF_at, setF_ne, setF_setF, true_and, up1_at, up1_ne, pk_sub, pk_cpy_in, pk_cpy_out, Nat.zero_add, Nat.add_zero, Nat.zero_mul, Nat.sub_zero, Nat.add_sub_cancel_left]
        exact d3.2.2.2.1 i a b
      · by_cases e : i = o + c ∧ j = o + b
        · obtain ⟨rfl, rfl⟩ := e
          rw [hb l c b a1 hc hbb]
          rcases (by omega : l = 0 ∨ l = 1) with rfl | rfl
          · simp (disch := omega) only [c_bnd, c_chk, c_lb0, c_lb1, c_lb2, c_lb3, L0, L1, L2, L10007, nI_add, pk_mul, ile_t, ile_f, ilt_t, ilt_f, ieq_t, ieq_f, c_rmI, setF_at, setF_ne, setF_setF, true_and, up1_at, up1_ne, pk_sub, pk_cpy_in, pk_cpy_out, Nat.zero_add, Nat.add_zero, Nat.zero_mul, Nat.sub_zero, Nat.add_sub_cancel_left]
          · simp (disch := omega) only [c_bnd, c_chk, c_lb0, c_lb1, c_lb2, c_lb3, L0, L1, L2, L10007, nI_add, pk_mul, ile_t, ile_f, ilt_t, ilt_f, ieq_t, ieq_f, c_rmI, setF_at, setF_ne, setF_setF, true_and, up1_at, up1_ne, pk_sub, pk_cpy_in, pk_cpy_out, Nat.zero_add, Nat.add_zero, Nat.zero_mul, Nat.sub_zero, Nat.add_sub_cancel_left]
        · have := d3.2.2.2.2 l i j a1 a2 a3 (a4.elim Or.inl (fun e => Or.inr (by omega)))
          rcases (by omega : l = 0 ∨ l = 1) with rfl | rfl
          · rw [setF_at, up1_ne (by omega), up1_ne (by omega)]
            exact this
          · rw [setF_at, up1_ne (by omega), up1_ne (by omega)]
            exact this
    · intro N3 d3
      have g0 := (hX0.fr hX12 d3.1 (by omega)).1
      show f_X7_blocks_B16 _ _ _ _ _ _ _ _ = _
      unfold f_X7_blocks_B16
      simp (disch := omega) only [c_bnd, c_chk, c_lb0, c_lb1, c_lb2, c_lb3, L0, L1, L2, L10007, nI_add, pk_mul, ile_t, ile_f, ilt_t, ilt_f, ieq_t, ieq_f, c_rmI, setF_at, setF_ne, setF_setF, true_and, up1_at, up1_ne, pk_sub, pk_cpy_in, pk_cpy_out, Nat.zero_add, Nat.add_zero, Nat.zero_mul, Nat.sub_zero, Nat.add_sub_cancel_left, c_gfI h.ob, c_pfI h.ob, c_chkO h.ob, c_gfR h.ob h.rpool, c_ldI h.gpool, c_stI h.gpool, m_iAt, m_fAt, m_at, m_many h, L12, L13, L25, L144, L313, g0]
    · intro N3 d3
      refine mx_eq rfl ?_
      exact d3.mono (fun i _ e => e) (fun i _ e => e) (fun l i j _ _ a e => e.elim Or.inl (fun e => Or.inr (by omega)))
  · intro N2 d2
    have f0 := (hX0.fr hX12 d2.1 (by omega)).1
    show f_X7_blocks_B3 _ _ _ _ _ _ _ = _
    unfold f_X7_blocks_B3
    simp (disch := omega) only [c_bnd, c_chk, c_lb0, c_lb1, c_lb2, c_lb3, L0, L1, L2, L10007, nI_add, pk_mul, ile_t, ile_f, ilt_t, ilt_f, ieq_t, ieq_f, c_rmI, setF_at, setF_ne, setF_setF, true_and, up1_at, up1_ne, pk_sub, pk_cpy_in, pk_cpy_out, Nat.zero_add, Nat.add_zero, Nat.zero_mul, Nat.sub_zero, Nat.add_sub_cancel_left, c_gfI h.ob, c_pfI h.ob, c_chkO h.ob, c_gfR h.ob h.rpool, c_ldI h.gpool, c_stI h.gpool, m_iAt, m_fAt, m_at, m_many h, L12, L13, L25, L144, L313, f0]
  · intro N2 d2
    exact mx_eq rfl d2
theorem m_sums (h : mS Γ R p) (hx : x < 26) (hy : y < 26) (hq : q < 26) (hxq : x ≠ q) (hyq : y ≠ q) (hX : mAu N p x X) (hY : mAu N p y Y) (hc : X.1 + Y.1 ≤ 12) : Mx (f_X7_sums Γ p (nI x) (nI y) (nI q) (cS N R J)) (fun σ => ((), σ)) R J (fun N' => frP N N' p (313 * q) (313 * q + 313) ∧ mAu N' p q (sumA X Y)) := by
  have e0 := hX.1
  have e1 := hY.1
  unfold f_X7_sums
  simp (disch := omega) only [c_bnd, c_chk, c_lb0, c_lb1, c_lb2, c_lb3, L0, L1, L2, L10007, nI_add, pk_mul, ile_t, ile_f, ilt_t, ilt_f, ieq_t, ieq_f, c_rmI, setF_at, setF_ne, setF_setF, true_and, up1_at, up1_ne, pk_sub, pk_cpy_in, pk_cpy_out, Nat.zero_add, Nat.add_zero, Nat.zero_mul, Nat.sub_zero, Nat.add_sub_cancel_left, c_gfI h.ob, c_pfI h.ob, c_chkO h.ob, c_gfR h.ob h.rpool, c_ldI h.gpool, c_stI h.gpool, m_iAt, m_fAt, m_at, m_many h, L12, L13, L25, L144, L313, e0, e1]
  refine mx_bnd (pD.clears (A := sumA X Y) h hq hc) ?_
  intro N1 d1
  refine mx_bnd (m_blocks h hx hq hxq hX hc (o := 0) (show 0 + X.1 ≤ X.1 + Y.1 by omega) ?_ d1) ?_
  · intro l i j hl hi hj
    show (if 0 + i < X.1 ∧ 0 + j < X.1 then _ else _) = _
    rw [if_pos (by omega), Nat.zero_add, Nat.zero_add]
  intro N2 d2
  have f0 := (hX.fr (by omega) d2.1 (by omega)).1
  simp (disch := omega) only [c_bnd, c_chk, c_lb0, c_lb1, c_lb2, c_lb3, L0, L1, L2, L10007, nI_add, pk_mul, ile_t, ile_f, ilt_t, ilt_f, ieq_t, ieq_f, c_rmI, setF_at, setF_ne, setF_setF, true_and, up1_at, up1_ne, pk_sub, pk_cpy_in, pk_cpy_out, Nat.zero_add, Nat.add_zero, Nat.zero_mul, Nat.sub_zero, Nat.add_sub_cancel_left, c_gfI h.ob, c_pfI h.ob, c_chkO h.ob, c_gfR h.ob h.rpool, c_ldI h.gpool, c_stI h.gpool, m_iAt, m_fAt, m_at, m_many h, L12, L13, L25, L144, L313, f0]
  refine mx_bnd (m_blocks h hy hq hyq hY hc (o := X.1) (Nat.le_refl _) ?_ d2) ?_
  · intro l i j hl hi hj
    show (if X.1 + i < X.1 ∧ X.1 + j < X.1 then _ else if X.1 ≤ X.1 + i ∧ X.1 ≤ X.1 + j then _ else _) = _
    rw [if_neg (by omega), if_pos (by omega), Nat.add_sub_cancel_left, Nat.add_sub_cancel_left]
  intro N3 d3
  refine mx_lb0 (mx_for (fun c N' => pD N N' p q (sumA X Y) (fun i => i < c) (fun i => i < c) (fun _ _ _ => True)) (s := 0) (e := X.1 + Y.1) (by omega) (by omega) (d3.mono (fun i _ e => absurd e (by omega)) (fun i _ e => absurd e (by omega)) (fun l i j _ a b _ => ?_)) ?_ ?_) ?_
  · have a' : i < X.1 + Y.1 := a
    have b' : j < X.1 + Y.1 := b
    by_cases e : (i < X.1 ∧ j < X.1)
    · exact Or.inl (Or.inr (by omega))
    · by_cases e2 : X.1 ≤ i ∧ X.1 ≤ j
      · exact Or.inr (by omega)
      · refine Or.inl (Or.inl ?_)
        show (if i < X.1 ∧ j < X.1 then _ else if X.1 ≤ i ∧ X.1 ≤ j then _ else _) = 0
        rw [if_neg e, if_neg e2]
  · intro c N4 _ hcc d4
    have hX4 := hX.fr (by omega) d4.1 (by omega)
    have hY4 := hY.fr (by omega) d4.1 (by omega)
    have g0 := hX4.1
    have g1 := hY4.1
    have g2 := d4.2.1
    rw [show (sumA X Y).1 = X.1 + Y.1 from rfl] at g2
    have fin : ∀ N5, (N5 = setF N4 (p + 1) (up1 (up1 (N4 (p + 1)) (313 * q + 1 + c) ((sumA X Y).2.1 c)) (313 * q + 13 + c) ((sumA X Y).2.2.1 c))) → pD N N5 p q (sumA X Y) (fun i => i < c + 1) (fun i => i < c + 1) (fun _ _ _ => True) := by
      intro N5 e
      subst e
      refine ⟨d4.1.trans ⟨fun x e => ?_, fun z e => ?_⟩, ?_, fun i a b => ?_, fun i a b => ?_, fun l i j a1 a2 a3 a4 => ?_⟩
      · simp (disch := omega) only [c_bnd, c_chk, c_lb0, c_lb1, c_lb2, c_lb3, L0, L1, L2, L10007, nI_add, pk_mul, ile_t, ile_f, ilt_t, ilt_f, ieq_t, ieq_f, c_rmI, setF_at, setF_ne, setF_setF, true_and, up1_at, up1_ne, pk_sub, pk_cpy_in, pk_cpy_out, Nat.zero_add, Nat.add_zero, Nat.zero_mul, Nat.sub_zero, Nat.add_sub_cancel_left]
      · simp (disch := omega) only [c_bnd, c_chk, c_lb0, c_lb1, c_lb2, c_lb3, L0, L1, L2, L10007, nI_add, pk_mul, ile_t, ile_f, ilt_t, ilt_f, ieq_t, ieq_f, c_rmI, setF_at, setF_ne, setF_setF, true_and, up1_at, up1_ne, pk_sub, pk_cpy_in, pk_cpy_out, Nat.zero_add, Nat.add_zero, Nat.zero_mul, Nat.sub_zero, Nat.add_sub_cancel_left]
      · simp (disch := omega) only [c_bnd, c_chk, c_lb0, c_lb1, c_lb2, c_lb3, L0, L1, L2, L10007, nI_add, pk_mul, ile_t, ile_f, ilt_t, ilt_f, ieq_t, ieq_f, c_rmI, setF_at, setF_ne, setF_setF, true_and, up1_at, up1_ne, pk_sub, pk_cpy_in, pk_cpy_out, Nat.zero_add, Nat.add_zero, Nat.zero_mul, Nat.sub_zero, Nat.add_sub_cancel_left]
        exact d4.2.1
      · have a' : i < X.1 + Y.1 := a
        by_cases e : i = c
        · subst e
          simp (disch := omega) only [c_bnd, c_chk, c_lb0, c_lb1, c_lb2, c_lb3, L0, L1, L2, L10007, nI_add, pk_mul, ile_t, ile_f, ilt_t, ilt_f, ieq_t, ieq_f, c_rmI, setF_at, setF_ne, setF_setF, true_and, up1_at, up1_ne, pk_sub, pk_cpy_in, pk_cpy_out, Nat.zero_add, Nat.add_zero, Nat.zero_mul, Nat.sub_zero, Nat.add_sub_cancel_left]
        · simp (disch := omega) only [c_bnd, c_chk, c_lb0, c_lb1, c_lb2, c_lb3, L0, L1, L2, L10007, nI_add, pk_mul, ile_t, ile_f, ilt_t, ilt_f, ieq_t, ieq_f, c_rmI, setF_at, setF_ne, setF_setF, true_and, up1_at, up1_ne, pk_sub, pk_cpy_in, pk_cpy_out, Nat.zero_add, Nat.add_zero, Nat.zero_mul, Nat.sub_zero, Nat.add_sub_cancel_left]
          exact d4.2.2.1 i a (by omega)
      · have a' : i < X.1 + Y.1 := a
        by_cases e : i = c
        · subst e
          simp (disch := omega) only [c_bnd, c_chk, c_lb0, c_lb1, c_lb2, c_lb3, L0, L1, L2, L10007, nI_add, pk_mul, ile_t, ile_f, ilt_t, ilt_f, ieq_t, ieq_f, c_rmI, setF_at, setF_ne, setF_setF, true_and, up1_at, up1_ne, pk_sub, pk_cpy_in, pk_cpy_out, Nat.zero_add, Nat.add_zero, Nat.zero_mul, Nat.sub_zero, Nat.add_sub_cancel_left]
        · simp (disch := omega) only [c_bnd, c_chk, c_lb0, c_lb1, c_lb2, c_lb3, L0, L1, L2, L10007, nI_add, pk_mul, ile_t, ile_f, ilt_t, ilt_f, ieq_t, ieq_f, c_rmI, setF_at, setF_ne, setF_setF, true_and, up1_at, up1_ne, pk_sub, pk_cpy_in, pk_cpy_out, Nat.zero_add, Nat.add_zero, Nat.zero_mul, Nat.sub_zero, Nat.add_sub_cancel_left]
          exact d4.2.2.2.1 i a (by omega)
      · have a2' : i < X.1 + Y.1 := a2
        have a3' : j < X.1 + Y.1 := a3
        simp (disch := omega) only [c_bnd, c_chk, c_lb0, c_lb1, c_lb2, c_lb3, L0, L1, L2, L10007, nI_add, pk_mul, ile_t, ile_f, ilt_t, ilt_f, ieq_t, ieq_f, c_rmI, setF_at, setF_ne, setF_setF, true_and, up1_at, up1_ne, pk_sub, pk_cpy_in, pk_cpy_out, Nat.zero_add, Nat.add_zero, Nat.zero_mul, Nat.sub_zero, Nat.add_sub_cancel_left]
        exact d4.2.2.2.2 l i j a1 a2 a3 trivial
    show Mx (f_X7_sums_B37 _ _ _ _ _ _ _) _ _ _ _
    unfold f_X7_sums_B37
    by_cases e : c < X.1
    · have k1 := (hX4.2 c e).1
      have k2 := (hX4.2 c e).2.1
      have k3 : (sumA X Y).2.1 c = X.2.1 c := if_pos e
      have k4 : (sumA X Y).2.2.1 c = X.2.2.1 c := if_pos e
      simp (disch := omega) only [c_bnd, c_chk, c_lb0, c_lb1, c_lb2, c_lb3, L0, L1, L2, L10007, nI_add, pk_mul, ile_t, ile_f, ilt_t, ilt_f, ieq_t, ieq_f, c_rmI, setF_at, setF_ne, setF_setF, true_and, up1_at, up1_ne, pk_sub, pk_cpy_in, pk_cpy_out, Nat.zero_add, Nat.add_zero, Nat.zero_mul, Nat.sub_zero, Nat.add_sub_cancel_left, c_gfI h.ob, c_pfI h.ob, c_chkO h.ob, c_gfR h.ob h.rpool, c_ldI h.gpool, c_stI h.gpool, m_iAt, m_fAt, m_at, m_many h, L12, L13, L25, L144, L313, g0, g1, g2]
      unfold f_X7_sums_B37_L62
      simp (disch := omega) only [c_bnd, c_chk, c_lb0, c_lb1, c_lb2, c_lb3, L0, L1, L2, L10007, nI_add, pk_mul, ile_t, ile_f, ilt_t, ilt_f, ieq_t, ieq_f, c_rmI, setF_at, setF_ne, setF_setF, true_and, up1_at, up1_ne, pk_sub, pk_cpy_in, pk_cpy_out, Nat.zero_add, Nat.add_zero, Nat.zero_mul, Nat.sub_zero, Nat.add_sub_cancel_left]
      unfold f_X7_sums_B37_L82
      simp (disch := omega) only [c_bnd, c_chk, c_lb0, c_lb1, c_lb2, c_lb3, L0, L1, L2, L10007, nI_add, pk_mul, ile_t, ile_f, ilt_t, ilt_f, ieq_t, ieq_f, c_rmI, setF_at, setF_ne, setF_setF, true_and, up1_at, up1_ne, pk_sub, pk_cpy_in, pk_cpy_out, Nat.zero_add, Nat.add_zero, Nat.zero_mul, Nat.sub_zero, Nat.add_sub_cancel_left, c_gfI h.ob, c_pfI h.ob, c_chkO h.ob, c_gfR h.ob h.rpool, c_ldI h.gpool, c_stI h.gpool, m_iAt, m_fAt, m_at, m_many h, L12, L13, L25, L144, L313]
      unfold f_X7_sums_B37_L108
      simp (disch := omega) only [c_bnd, c_chk, c_lb0, c_lb1, c_lb2, c_lb3, L0, L1, L2, L10007, nI_add, pk_mul, ile_t, ile_f, ilt_t, ilt_f, ieq_t, ieq_f, c_rmI, setF_at, setF_ne, setF_setF, true_and, up1_at, up1_ne, pk_sub, pk_cpy_in, pk_cpy_out, Nat.zero_add, Nat.add_zero, Nat.zero_mul, Nat.sub_zero, Nat.add_sub_cancel_left, c_gfI h.ob, c_pfI h.ob, c_chkO h.ob, c_gfR h.ob h.rpool, c_ldI h.gpool, c_stI h.gpool, m_iAt, m_fAt, m_at, m_many h, L12, L13, L25, L144, L313, k1]
      unfold f_X7_sums_B37_L139
      simp (disch := omega) only [c_bnd, c_chk, c_lb0, c_lb1, c_lb2, c_lb3, L0, L1, L2, L10007, nI_add, pk_mul, ile_t, ile_f, ilt_t, ilt_f, ieq_t, ieq_f, c_rmI, setF_at, setF_ne, setF_setF, true_and, up1_at, up1_ne, pk_sub, pk_cpy_in, pk_cpy_out, Nat.zero_add, Nat.add_zero, Nat.zero_mul, Nat.sub_zero, Nat.add_sub_cancel_left, c_gfI h.ob, c_pfI h.ob, c_chkO h.ob, c_gfR h.ob h.rpool, c_ldI h.gpool, c_stI h.gpool, m_iAt, m_fAt, m_at, m_many h, L12, L13, L25, L144, L313, k2]
      exact mx_eq rfl (fin _ (by rw [k3, k4]))
    · have k1 := (hY4.2 (c - X.1) (by omega)).1
      have k2 := (hY4.2 (c - X.1) (by omega)).2.1
      have k3 : (sumA X Y).2.1 c = Y.2.1 (c - X.1) := if_neg e
      have k4 : (sumA X Y).2.2.1 c = Y.2.2.1 (c - X.1) := if_neg e
      simp (disch := omega) only [c_bnd, c_chk, c_lb0, c_lb1, c_lb2, c_lb3, L0, L1, L2, L10007, nI_add, pk_mul, ile_t, ile_f, ilt_t, ilt_f, ieq_t, ieq_f, c_rmI, setF_at, setF_ne, setF_setF, true_and, up1_at, up1_ne, pk_sub, pk_cpy_in, pk_cpy_out, Nat.zero_add, Nat.add_zero, Nat.zero_mul, Nat.sub_zero, Nat.add_sub_cancel_left, c_gfI h.ob, c_pfI h.ob, c_chkO h.ob, c_gfR h.ob h.rpool, c_ldI h.gpool, c_stI h.gpool, m_iAt, m_fAt, m_at, m_many h, L12, L13, L25, L144, L313, g0, g1, g2]
      unfold f_X7_sums_B37_L62
      simp (disch := omega) only [c_bnd, c_chk, c_lb0, c_lb1, c_lb2, c_lb3, L0, L1, L2, L10007, nI_add, pk_mul, ile_t, ile_f, ilt_t, ilt_f, ieq_t, ieq_f, c_rmI, setF_at, setF_ne, setF_setF, true_and, up1_at, up1_ne, pk_sub, pk_cpy_in, pk_cpy_out, Nat.zero_add, Nat.add_zero, Nat.zero_mul, Nat.sub_zero, Nat.add_sub_cancel_left, c_gfI h.ob, c_pfI h.ob, c_chkO h.ob, c_gfR h.ob h.rpool, c_ldI h.gpool, c_stI h.gpool, m_iAt, m_fAt, m_at, m_many h, L12, L13, L25, L144, L313, g0]
      unfold f_X7_sums_B37_L82
      simp (disch := omega) only [c_bnd, c_chk, c_lb0, c_lb1, c_lb2, c_lb3, L0, L1, L2, L10007, nI_add, pk_mul, ile_t, ile_f, ilt_t, ilt_f, ieq_t, ieq_f, c_rmI, setF_at, setF_ne, setF_setF, true_and, up1_at, up1_ne, pk_sub, pk_cpy_in, pk_cpy_out, Nat.zero_add, Nat.add_zero, Nat.zero_mul, Nat.sub_zero, Nat.add_sub_cancel_left, c_gfI h.ob, c_pfI h.ob, c_chkO h.ob, c_gfR h.ob h.rpool, c_ldI h.gpool, c_stI h.gpool, m_iAt, m_fAt, m_at, m_many h, L12, L13, L25, L144, L313]
      unfold f_X7_sums_B37_L108
      simp (disch := omega) only [c_bnd, c_chk, c_lb0, c_lb1, c_lb2, c_lb3, L0, L1, L2, L10007, nI_add, pk_mul, ile_t, ile_f, ilt_t, ilt_f, ieq_t, ieq_f, c_rmI, setF_at, setF_ne, setF_setF, true_and, up1_at, up1_ne, pk_sub, pk_cpy_in, pk_cpy_out, Nat.zero_add, Nat.add_zero, Nat.zero_mul, Nat.sub_zero, Nat.add_sub_cancel_left, c_gfI h.ob, c_pfI h.ob, c_chkO h.ob, c_gfR h.ob h.rpool, c_ldI h.gpool, c_stI h.gpool, m_iAt, m_fAt, m_at, m_many h, L12, L13, L25, L144, L313, k1]
      unfold f_X7_sums_B37_L139
      simp (disch := omega) only [c_bnd, c_chk, c_lb0, c_lb1, c_lb2, c_lb3, L0, L1, L2, L10007, nI_add, pk_mul, ile_t, ile_f, ilt_t, ilt_f, ieq_t, ieq_f, c_rmI, setF_at, setF_ne, setF_setF, true_and, up1_at, up1_ne, pk_sub, pk_cpy_in, pk_cpy_out, Nat.zero_add, Nat.add_zero, Nat.zero_mul, Nat.sub_zero, Nat.add_sub_cancel_left, c_gfI h.ob, c_pfI h.ob, c_chkO h.ob, c_gfR h.ob h.rpool, c_ldI h.gpool, c_stI h.gpool, m_iAt, m_fAt, m_at, m_many h, L12, L13, L25, L144, L313, k2]
      exact mx_eq rfl (fin _ (by rw [k3, k4]))
  · intro N4 d4
    have g2 := d4.2.1
    rw [show (sumA X Y).1 = X.1 + Y.1 from rfl] at g2
    show f_X7_sums_B37 _ _ _ _ _ _ _ = _
    unfold f_X7_sums_B37
    simp (disch := omega) only [c_bnd, c_chk, c_lb0, c_lb1, c_lb2, c_lb3, L0, L1, L2, L10007, nI_add, pk_mul, ile_t, ile_f, ilt_t, ilt_f, ieq_t, ieq_f, c_rmI, setF_at, setF_ne, setF_setF, true_and, up1_at, up1_ne, pk_sub, pk_cpy_in, pk_cpy_out, Nat.zero_add, Nat.add_zero, Nat.zero_mul, Nat.sub_zero, Nat.add_sub_cancel_left, c_gfI h.ob, c_pfI h.ob, c_chkO h.ob, c_gfR h.ob h.rpool, c_ldI h.gpool, c_stI h.gpool, m_iAt, m_fAt, m_at, m_many h, L12, L13, L25, L144, L313, g2]
  · intro N4 d4
    exact mx_eq rfl ⟨d4.1, d4.toAu (fun i a => a) (fun i a => a) (fun l i j _ _ _ => trivial)⟩
end MB
