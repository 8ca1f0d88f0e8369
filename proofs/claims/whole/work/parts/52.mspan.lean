/-! ===== the model: firstWord, forwards, minimizes ===== -/
section MF
variable {Γ : zSh} {N : Mem} {R : Mem} {J : Nat → Nat → Int64} {p q x l : Nat} {a2 : Int32} {X S A : Au}
theorem m_firstWord (h : mS Γ R p) (hs : spS N p x a2 X S) : Mx (f_X7_firstWord Γ p (nI x) a2 (cS N R J)) (fun σ => (if fnz (fun k => endV a2 X S ((expl S).2.2.2.1 k)) (expl S).1 = (expl S).1 then -1 else nI ((expl S).2.1 (fnz (fun k => endV a2 X S ((expl S).2.2.2.1 k)) (expl S).1)), σ)) R J (fun N' => frM N N' p) := by
  obtain ⟨h24, ok⟩ := hs.ok
  have hle := bI_le (expl_I ok)
  have n3 := fnz_le (f := fun k => endV a2 X S ((expl S).2.2.2.1 k)) (expl S).1
  obtain ⟨n1, n2⟩ := fnz_spec (f := fun k => endV a2 X S ((expl S).2.2.2.1 k)) (expl S).1
  generalize hi : fnz (fun k => endV a2 X S ((expl S).2.2.2.1 k)) (expl S).1 = i at *
  have hlt : ∀ v, endV a2 X S v < 10007 := by
    intro v
    unfold endV
    by_cases e : a2 = -1
    · rw [if_pos e]; exact wtA_lt
    · rw [if_neg e]; exact mlt _
  unfold f_X7_firstWord
  rw [c_chkO h.ob]
  refine mx_bnd (m_spans h hs) ?_
  intro N1 ⟨r1, r2⟩
  have step : ∀ k N2, k < (expl S).1 → frA N1 N2 (p + 3) (p + 4) → ∃ N3, frA N1 N3 (p + 3) (p + 4) ∧ f_X7_endsBasis Γ p (nI k) (nI x) a2 (cS N2 R J) = some (nI (endV a2 X S ((expl S).2.2.2.1 k)), cS N3 R J) := by
    intro k N2 hk s1
    have hs2 : spS N2 p x a2 X S := (hs.eq r1.pool).eq (s1 _ (by omega))
    have hB2 : mBs N2 p S.1 (expl S) := r2.of (by rw [s1 p (by omega)]) (fun z a b => s1 z (by omega))
    obtain ⟨N3, e, t⟩ := m_endsBasis (J := J) h hs2 hB2 (expl_I ok) hk
    exact ⟨N3, s1.trans t, e⟩
  have f0 : ∀ N2, frA N1 N2 (p + 3) (p + 4) → N2 p 12 = (expl S).1 := fun N2 s1 => by rw [s1 p (by omega)]; exact r2.1
  rw [L0]
  by_cases e : i = (expl S).1
  · suffices hh : ∃ b, loopM (fun q => f_X7_firstWord_B8 Γ p (nI x) a2 q.1 q.2) FUEL (nI 0, cS N1 R J) = some b ∧ ∃ N2, b = .inl (cS N2 R J) ∧ frA N1 N2 (p + 3) (p + 4) by
      obtain ⟨b, e1, N2, rfl, s1⟩ := hh
      rw [e1, if_pos e]
      exact mx_eq rfl (r1.trans (frM.of s1 (by omega) (by omega)))
    refine loopM_q (fun k s => ∃ N2, s = (nI k, cS N2 R J) ∧ frA N1 N2 (p + 3) (p + 4)) (fun b : zSt ⊕ (Int32 × zSt) => ∃ N2, b = Sum.inl (cS N2 R J) ∧ frA N1 N2 (p + 3) (p + 4)) (expl S).1 0 FUEL _ ⟨N1, rfl, frA.refl⟩ (by unfold FUEL; omega) ?_ ?_
    · intro k s _ hk ⟨N2, e1, s1⟩
      subst e1
      obtain ⟨N3, s2, e2⟩ := step k N2 (by omega) s1
      have hz := n1 k (by omega)
      show ∃ s', f_X7_firstWord_B8 _ _ _ _ _ _ = some (.inl s') ∧ _
      unfold f_X7_firstWord_B8
      rw [c_gfI h.ob, f0 N2 s1, ile_f (by omega) (by omega), c_chkO h.ob, e2, c_bnd, hz, if_pos (show nI 0 = (0 : Int32) from rfl), L1, nI_add]
      exact ⟨_, rfl, N3, rfl, s2⟩
    · intro s ⟨N2, e1, s1⟩
      subst e1
      show ∃ b, f_X7_firstWord_B8 _ _ _ _ _ _ = some (.inr b) ∧ _
      unfold f_X7_firstWord_B8
      rw [c_gfI h.ob, f0 N2 s1, ile_t (by omega) (by omega)]
      exact ⟨_, rfl, N2, rfl, s1⟩
  · suffices hh : ∃ b, loopM (fun q => f_X7_firstWord_B8 Γ p (nI x) a2 q.1 q.2) FUEL (nI 0, cS N1 R J) = some b ∧ ∃ N2, b = .inr (nI ((expl S).2.1 i), cS N2 R J) ∧ frA N1 N2 (p + 3) (p + 4) by
      obtain ⟨b, e1, N2, rfl, s1⟩ := hh
      rw [e1, if_neg e]
      exact mx_eq rfl (r1.trans (frM.of s1 (by omega) (by omega)))
    refine loopM_q (fun k s => ∃ N2, s = (nI k, cS N2 R J) ∧ frA N1 N2 (p + 3) (p + 4)) (fun b : zSt ⊕ (Int32 × zSt) => ∃ N2, b = Sum.inr (nI ((expl S).2.1 i), cS N2 R J) ∧ frA N1 N2 (p + 3) (p + 4)) i 0 FUEL _ ⟨N1, rfl, frA.refl⟩ (by unfold FUEL; omega) ?_ ?_
    · intro k s _ hk ⟨N2, e1, s1⟩
      subst e1
      obtain ⟨N3, s2, e2⟩ := step k N2 (by omega) s1
      have hz := n1 k (by omega)
      show ∃ s', f_X7_firstWord_B8 _ _ _ _ _ _ = some (.inl s') ∧ _
      unfold f_X7_firstWord_B8
      rw [c_gfI h.ob, f0 N2 s1, ile_f (by omega) (by omega), c_chkO h.ob, e2, c_bnd, hz, if_pos (show nI 0 = (0 : Int32) from rfl), L1, nI_add]
      exact ⟨_, rfl, N3, rfl, s2⟩
    · intro s ⟨N2, e1, s1⟩
      subst e1
      rw [Nat.zero_add]
      obtain ⟨N3, s2, e2⟩ := step i N2 (by omega) s1
      have hz := n2 (by omega)
      have hz2 := hlt ((expl S).2.2.2.1 i)
      have hw : N3 (p + 9) i = (expl S).2.1 i := by rw [s2 _ (by omega)]; exact (r2.2 i (by omega)).1
      show ∃ b, f_X7_firstWord_B8 _ _ _ _ _ _ = some (.inr b) ∧ _
      unfold f_X7_firstWord_B8
      rw [c_gfI h.ob, f0 N2 s1, ile_f (by omega) (by omega), c_chkO h.ob, e2, c_bnd, L0, ieq_f hz (by omega) (by omega), c_gfR h.ob h.rwords (by omega), c_ldI h.gwords (by omega) (by omega), hw]
      exact ⟨_, rfl, N3, rfl, s2⟩
/-- the pool's part alone -/
def pN (g0 : Nat → Nat) (N : Mem) (p q : Nat) (A : Au) (PI PF : Nat → Prop) (PM : Nat → Nat → Nat → Prop) : Prop := pD (setF N (p + 1) g0) N p q A PI PF PM
theorem pN.other {g0 : Nat → Nat} {N N' : Mem} {PI PF : Nat → Prop} {PM : Nat → Nat → Nat → Prop} (h : pN g0 N p q A PI PF PM) (e : N' (p + 1) = N (p + 1)) : pN g0 N' p q A PI PF PM := by
  obtain ⟨h1, h2, h3, h4, h5⟩ := h
  refine ⟨⟨fun x hx => (setF_ne (by omega)).symm, fun z hz => ?_⟩, by rw [e]; exact h2, by rw [e]; exact h3, by rw [e]; exact h4, by rw [e]; exact h5⟩
  have := h1.2 z hz
  rw [setF_at] at this
  rw [setF_at, e]
  exact this
theorem pN.put {g0 : Nat → Nat} {N : Mem} {PI PF QI QF : Nat → Prop} {PM QM : Nat → Nat → Nat → Prop} (h : pN g0 N p q A PI PF PM) (hA : A.1 ≤ 12) {g : Nat → Nat} (h0 : ∀ z, z < 313 * q + 1 ∨ 313 * q + 313 ≤ z → g z = N (p + 1) z) (h1 : ∀ i, i < A.1 → QI i → PI i ∧ g (313 * q + 1 + i) = N (p + 1) (313 * q + 1 + i) ∨ g (313 * q + 1 + i) = A.2.1 i) (h2 : ∀ i, i < A.1 → QF i → PF i ∧ g (313 * q + 13 + i) = N (p + 1) (313 * q + 13 + i) ∨ g (313 * q + 13 + i) = A.2.2.1 i) (h3 : ∀ l i j, l < 2 → i < A.1 → j < A.1 → QM l i j → PM l i j ∧ g (313 * q + 25 + 144 * l + 12 * i + j) = N (p + 1) (313 * q + 25 + 144 * l + 12 * i + j) ∨ g (313 * q + 25 + 144 * l + 12 * i + j) = A.2.2.2 l i j) : pN g0 (setF N (p + 1) g) p q A QI QF QM := by
  unfold pN
  rw [setF_setF]
  exact pD.put h hA h0 h1 h2 h3
theorem pN.keep {N N' : Mem} {PI PF : Nat → Prop} {PM : Nat → Nat → Nat → Prop} (h : pN (N (p + 1)) N' p q A PI PF PM) (hX : mAu N p x X) (hX12 : X.1 ≤ 12) (hxq : x ≠ q) : mAu N' p x X := by
  have h1 : mAu (setF N' (p + 1) (N (p + 1))) p x X := hX.eq setF_at
  exact h1.fr hX12 h.1 (by omega)
/-- the rest of the model's memory, the pool aside -/
def frF (N N' : Mem) (p : Nat) : Prop := (∀ x, x ≠ p → x ≠ p + 1 → x < p + 3 ∨ p + 12 ≤ x → N' x = N x) ∧ ∀ i, i ≠ 12 → N' p i = N p i
theorem frF.refl {N : Mem} : frF N N p := ⟨fun _ _ _ _ => rfl, fun _ _ => rfl⟩
theorem frF.trans {N N1 N2 : Mem} (h : frF N N1 p) (k : frF N1 N2 p) : frF N N2 p := ⟨fun x a b c => (k.1 x a b c).trans (h.1 x a b c), fun i a => (k.2 i a).trans (h.2 i a)⟩
theorem frM.toF {N N' : Mem} (h : frM N N' p) : frF N N' p := ⟨fun x a _ c => h.1 x a c, h.2⟩
theorem frP.toF {N N' : Mem} {lo hi : Nat} (h : frP N N' p lo hi) : frF N N' p := ⟨fun x a b c => h.1 x (by omega), fun i _ => by rw [h.1 p (by omega)]⟩
theorem frF.set {N : Mem} {g : Nat → Nat} : frF N (setF N (p + 1) g) p := ⟨fun x a b c => setF_ne b, fun i _ => by rw [setF_ne (by omega)]⟩
theorem m_forwards (h : mS Γ R p) (hx : x < 26) (hq : q < 26) (hxq : x ≠ q) (hX : mAu N p x X) (hX12 : X.1 ≤ 12) (ok : okA X) : Mx (f_X7_forwards Γ p (nI x) (nI q) (cS N R J)) (fun σ => ((), σ)) R J (fun N' => frF N N' p ∧ (∀ z, z < 313 * q ∨ 313 * q + 313 ≤ z → N' (p + 1) z = N (p + 1) z) ∧ mAu N' p q (redA X)) := by
  have hle := bI_le (expl_I ok)
  have hn : (redA X).1 = (expl X).1 := by unfold redA; rfl
  have hn12 : (redA X).1 ≤ 12 := by omega
  have hsp : ∀ N', mAu N' p x X → spS N' p x (-1) X X := fun N' a => ⟨hx, a, hX12, ok, Or.inl ⟨rfl, rfl⟩⟩
  unfold f_X7_forwards
  rw [c_chkO h.ob]
  refine mx_bnd (m_spans h (hsp N hX)) ?_
  intro N1 ⟨r1, r2⟩
  rw [c_gfI h.ob, r2.1, c_chkO h.ob, ← hn]
  refine mx_bnd (pD.clears (A := redA X) h hq hn12) ?_
  intro N2 d2
  have hpool : N1 (p + 1) = N (p + 1) := r1.pool
  have d2' : pN (N (p + 1)) N2 p q (redA X) (fun i => (redA X).2.1 i = 0) (fun i => (redA X).2.2.1 i = 0) (fun l i j => (redA X).2.2.2 l i j = 0) := by
    refine ⟨⟨fun z hz => (setF_ne (by omega)).symm, fun z hz => ?_⟩, d2.2⟩
    rw [setF_at, d2.1.2 z hz, hpool]
  have b2 : mBs N2 p X.1 (expl X) := r2.of (by rw [d2.1.1 p (by omega)]) (fun z a b => d2.1.1 z (by omega))
  have f2 : frF N N2 p := r1.toF.trans d2.1.toF
  rw [L0]
  refine mx_lb0 (mx_for (fun c N' => frF N N' p ∧ mBs N' p X.1 (expl X) ∧ pN (N (p + 1)) N' p q (redA X) (fun i => i < c) (fun i => i < c) (fun _ i _ => i < c)) (s := 0) (e := (redA X).1) (by omega) (by omega) ⟨f2, b2, d2'.mono (fun i _ e => absurd e (by omega)) (fun i _ e => absurd e (by omega)) (fun l i j _ _ _ e => absurd e (by omega))⟩ ?_ ?_) ?_
  · intro c N3 _ hc ⟨f3, b3, d3⟩
    have hc' : c < (expl X).1 := by omega
    have hini : (redA X).2.1 c = if c = 0 then 1 else 0 := by unfold redA; rfl
    have hfin : (redA X).2.2.1 c = wtA X ((expl X).2.2.2.1 c) := by unfold redA; rfl
    have main : ∀ z, z < 2 → z = (redA X).2.1 c → Mx (f_X7_forwards_B17_L43 Γ p (nI x) (nI q) (nI c) (nI z) (nI (313 * q + 1 + c)) (p + 1) (cS N3 R J)) (fun σ => .inl (nI (c + 1), σ)) R J (fun N' => frF N N' p ∧ mBs N' p X.1 (expl X) ∧ pN (N (p + 1)) N' p q (redA X) (fun i => i < c + 1) (fun i => i < c + 1) (fun _ i _ => i < c + 1)) := by
      intro z _ hz
      unfold f_X7_forwards_B17_L43
      rw [c_stI h.gpool (by omega) (by omega)]
      have d4 : pN (N (p + 1)) (setF N3 (p + 1) (up1 (N3 (p + 1)) (313 * q + 1 + c) z)) p q (redA X) (fun i => i < c + 1) (fun i => i < c) (fun _ i _ => i < c) := by
        refine d3.put hn12 (fun y e => ?_) (fun i a b => ?_) (fun i a b => ?_) (fun l i j a1 a2 a3 a4 => ?_)
        · simp (disch := omega) only [c_bnd, c_chk, c_lb0, c_lb1, c_lb2, c_lb3, L0, L1, L2, L10007, nI_add, pk_mul, ile_t, ile_f, ilt_t, ilt_f, ieq_t, ieq_f, c_rmI, setF_at, setF_ne, setF_setF, true_and, up1_at, up1_ne, pk_sub, pk_cpy_in, pk_cpy_out, Nat.zero_add, Nat.add_zero, Nat.zero_mul, Nat.sub_zero, Nat.add_sub_cancel_left]
        · by_cases e : i = c
          · subst e
            refine Or.inr ?_
            simp (disch := omega) only [c_bnd, c_chk, c_lb0, c_lb1, c_lb2, c_lb3, L0, L1, L2, L10007, nI_add, pk_mul, ile_t, ile_f, ilt_t, ilt_f, ieq_t, ieq_f, c_rmI, setF_at, setF_ne, setF_setF, true_and, up1_at, up1_ne, pk_sub, pk_cpy_in, pk_cpy_out, Nat.zero_add, Nat.add_zero, Nat.zero_mul, Nat.sub_zero, Nat.add_sub_cancel_left, hz]
          · refine Or.inl ⟨by omega, ?_⟩
            simp (disch := omega) only [c_bnd, c_chk, c_lb0, c_lb1, c_lb2, c_lb3, L0, L1, L2, L10007, nI_add, pk_mul, ile_t, ile_f, ilt_t, ilt_f, ieq_t, ieq_f, c_rmI, setF_at, setF_ne, setF_setF, true_and, up1_at, up1_ne, pk_sub, pk_cpy_in, pk_cpy_out, Nat.zero_add, Nat.add_zero, Nat.zero_mul, Nat.sub_zero, Nat.add_sub_cancel_left]
        · refine Or.inl ⟨b, ?_⟩
          simp (disch := omega) only [c_bnd, c_chk, c_lb0, c_lb1, c_lb2, c_lb3, L0, L1, L2, L10007, nI_add, pk_mul, ile_t, ile_f, ilt_t, ilt_f, ieq_t, ieq_f, c_rmI, setF_at, setF_ne, setF_setF, true_and, up1_at, up1_ne, pk_sub, pk_cpy_in, pk_cpy_out, Nat.zero_add, Nat.add_zero, Nat.zero_mul, Nat.sub_zero, Nat.add_sub_cancel_left]
        · refine Or.inl ⟨a4, ?_⟩
          simp (disch := omega) only [c_bnd, c_chk, c_lb0, c_lb1, c_lb2, c_lb3, L0, L1, L2, L10007, nI_add, pk_mul, ile_t, ile_f, ilt_t, ilt_f, ieq_t, ieq_f, c_rmI, setF_at, setF_ne, setF_setF, true_and, up1_at, up1_ne, pk_sub, pk_cpy_in, pk_cpy_out, Nat.zero_add, Nat.add_zero, Nat.zero_mul, Nat.sub_zero, Nat.add_sub_cancel_left]
      generalize hN4 : setF N3 (p + 1) (up1 (N3 (p + 1)) (313 * q + 1 + c) z) = N4 at d4
      have f4 : frF N3 N4 p := by subst hN4; exact frF.set
      have b4 : mBs N4 p X.1 (expl X) := by
        subst hN4
        exact b3.of (by rw [setF_ne (by omega)]) (fun y a b => setF_ne (by omega))
      clear hN4
      have hX4 := d4.keep hX hX12 hxq
      rw [c_gfR h.ob h.rpool (by omega), m_fAt, c_bnd, c_chkO h.ob]
      obtain ⟨N5, e5, s5⟩ := m_endsBasis (J := J) h (hsp N4 hX4) b4 (expl_I ok) hc'
      have hev : endV (-1) X X ((expl X).2.2.2.1 c) = (redA X).2.2.1 c := by unfold endV; rw [if_pos rfl, hfin]
      rw [e5, c_bnd, hev, c_stI h.gpool (by omega) (by omega)]
      have d5 := d4.other (s5 (p + 1) (by omega))
      have b5 : mBs N5 p X.1 (expl X) := b4.of (by rw [s5 p (by omega)]) (fun y a b => s5 y (by omega))
      have d6 : pN (N (p + 1)) (setF N5 (p + 1) (up1 (N5 (p + 1)) (313 * q + 13 + c) ((redA X).2.2.1 c))) p q (redA X) (fun i => i < c + 1) (fun i => i < c + 1) (fun _ i _ => i < c) := by
        refine d5.put hn12 (fun y e => ?_) (fun i a b => ?_) (fun i a b => ?_) (fun l i j a1 a2 a3 a4 => ?_)
        · simp (disch := omega) only [c_bnd, c_chk, c_lb0, c_lb1, c_lb2, c_lb3, L0, L1, L2, L10007, nI_add, pk_mul, ile_t, ile_f, ilt_t, ilt_f, ieq_t, ieq_f, c_rmI, setF_at, setF_ne, setF_setF, true_and, up1_at, up1_ne, pk_sub, pk_cpy_in, pk_cpy_out, Nat.zero_add, Nat.add_zero, Nat.zero_mul, Nat.sub_zero, Nat.add_sub_cancel_left]
        · refine Or.inl ⟨b, ?_⟩
          simp (disch := omega) only [c_bnd, c_chk, c_lb0, c_lb1, c_lb2, c_lb3, L0, L1, L2, L10007, nI_add, pk_mul, ile_t, ile_f, ilt_t, ilt_f, ieq_t, ieq_f, c_rmI, setF_at, setF_ne, setF_setF, true_and, up1_at, up1_ne, pk_sub, pk_cpy_in, pk_cpy_out, Nat.zero_add, Nat.add_zero, Nat.zero_mul, Nat.sub_zero, Nat.add_sub_cancel_left]
        · by_cases e : i = c
          · subst e
            refine Or.inr ?_
            simp (disch := omega) only [c_bnd, c_chk, c_lb0, c_lb1, c_lb2, c_lb3, L0, L1, L2, L10007, nI_add, pk_mul, ile_t, ile_f, ilt_t, ilt_f, ieq_t, ieq_f, c_rmI, setF_at, setF_ne, setF_setF, true_and, up1_at, up1_ne, pk_sub, pk_cpy_in, pk_cpy_out, Nat.zero_add, Nat.add_zero, Nat.zero_mul, Nat.sub_zero, Nat.add_sub_cancel_left]
          · refine Or.inl ⟨by omega, ?_⟩
            simp (disch := omega) only [c_bnd, c_chk, c_lb0, c_lb1, c_lb2, c_lb3, L0, L1, L2, L10007, nI_add, pk_mul, ile_t, ile_f, ilt_t, ilt_f, ieq_t, ieq_f, c_rmI, setF_at, setF_ne, setF_setF, true_and, up1_at, up1_ne, pk_sub, pk_cpy_in, pk_cpy_out, Nat.zero_add, Nat.add_zero, Nat.zero_mul, Nat.sub_zero, Nat.add_sub_cancel_left]
        · refine Or.inl ⟨a4, ?_⟩
          simp (disch := omega) only [c_bnd, c_chk, c_lb0, c_lb1, c_lb2, c_lb3, L0, L1, L2, L10007, nI_add, pk_mul, ile_t, ile_f, ilt_t, ilt_f, ieq_t, ieq_f, c_rmI, setF_at, setF_ne, setF_setF, true_and, up1_at, up1_ne, pk_sub, pk_cpy_in, pk_cpy_out, Nat.zero_add, Nat.add_zero, Nat.zero_mul, Nat.sub_zero, Nat.add_sub_cancel_left]
      generalize hN6 : setF N5 (p + 1) (up1 (N5 (p + 1)) (313 * q + 13 + c) ((redA X).2.2.1 c)) = N6 at d6
      have f6 : frF N5 N6 p := by subst hN6; exact frF.set
      have b6 : mBs N6 p X.1 (expl X) := by
        subst hN6
        exact b5.of (by rw [setF_ne (by omega)]) (fun y a b => setF_ne (by omega))
      clear hN6
      have f36 : frF N N6 p := f3.trans (f4.trans ((frM.of s5 (by omega) (by omega)).toF.trans f6))
      rw [L0]
      refine mx_lb0 (mx_for (fun l N' => frF N N' p ∧ mBs N' p X.1 (expl X) ∧ pN (N (p + 1)) N' p q (redA X) (fun i => i < c + 1) (fun i => i < c + 1) (fun l' i _ => i < c ∨ i = c ∧ l' < l)) (s := 0) (e := 2) (by omega) (by omega) ⟨f36, b6, d6.mono (fun i _ e => e) (fun i _ e => e) (fun l i j _ _ _ e => by omega)⟩ ?_ ?_) ?_
      · intro l N7 _ hl ⟨f7, b7, d7⟩
        have hX7 := d7.keep hX hX12 hxq
        have g7 := hX7.1
        have hm : ∀ j, (redA X).2.2.2 l c j = (rd (expl X) (stpA X l ((expl X).2.2.2.1 c)) (expl X).1).2 j := fun j => by unfold redA; rfl
        show Mx (f_X7_forwards_B64 _ _ _ _ _ _ _) _ _ _ _
        unfold f_X7_forwards_B64
        rw [L2, ile_f (by omega) (by omega), c_chkO h.ob, m_many h hx, g7, c_bnd, c_chkO h.ob]
        refine mx_bnd (m_laysBasis h (r := c) (w := X.1) (by omega) (by omega)) ?_
        intro N8 ⟨s8, t8⟩
        have hX8 := hX7.frA s8 (by omega)
        have hr8 : ∀ j, j < X.1 → N8 (p + 3) j = (expl X).2.2.2.1 c j := fun j hj => by rw [t8 j, if_pos hj]; exact ((b7.2 c hc').2.2.1 j hj).1
        rw [c_chkO h.ob, L0]
        refine mx_bnd (m_passes h hx hX8 hX12 ok (o := 0) (l := l) (by omega) (by omega) (fun i hi => by rw [Nat.zero_add, hr8 i hi]; exact (expl_I ok).2.1 c i hc' hi)) ?_
        intro N9 ⟨s9, t9⟩
        have hX9 := hX8.frA s9 (by omega)
        have g9 := hX9.1
        have b9 : mBs N9 p X.1 (expl X) := b7.of (by rw [s9 p (by omega), s8 p (by omega)]) (fun y a b => by rw [s9 y (by omega), s8 y (by omega)])
        have hr9 : ∀ j, j < X.1 → N9 (p + 3) j = stpA X l ((expl X).2.2.2.1 c) j := fun j hj => by
          rw [t9 j, if_pos (by omega), Nat.sub_zero]
          unfold stpB
          rw [if_neg (by omega)]
          exact stpA_congr (fun i hi => by rw [Nat.zero_add]; exact hr8 i hi)
        rw [c_chkO h.ob, m_many h hx, g9, c_bnd, c_chkO h.ob]
        refine mx_bnd (m_reduces h (by omega) (expl_I ok) b9 hr9 (fun j _ => stpA_lt)) ?_
        intro N10 ⟨s10, t10, u10⟩
        have b10 : mBs N10 p X.1 (expl X) := b9.of (by rw [s10 p (by omega)]) (fun y a b => by rw [s10 y (by omega)])
        have d10 : pN (N (p + 1)) N10 p q (redA X) (fun i => i < c + 1) (fun i => i < c + 1) (fun l' i _ => i < c ∨ i = c ∧ l' < l) := d7.other (by rw [s10 _ (by omega), s9 _ (by omega), s8 _ (by omega)])
        have f10 : frF N N10 p := f7.trans ((frM.of s8 (by omega) (by omega)).toF.trans ((frM.of s9 (by omega) (by omega)).toF.trans (frM.of s10 (by omega) (by omega)).toF))
        refine mx_lb0 (mx_for (fun j' N' => frF N N' p ∧ mBs N' p X.1 (expl X) ∧ (∀ j, j < 24 → N' (p + 11) j = (redA X).2.2.2 l c j) ∧ pN (N (p + 1)) N' p q (redA X) (fun i => i < c + 1) (fun i => i < c + 1) (fun l' i j => i < c ∨ i = c ∧ (l' < l ∨ l' = l ∧ j < j'))) (s := 0) (e := (expl X).1) (by omega) (by omega) ⟨f10, b10, fun j hj => by rw [(u10 j hj).2, hm], d10.mono (fun i _ e => e) (fun i _ e => e) (fun l i j _ _ _ e => by omega)⟩ ?_ ?_) ?_
        · intro j' N11 _ hj' ⟨f11, b11, v11, d11⟩
          have g0 := b11.1
          have g1 := v11 j' (by omega)
          show Mx (f_X7_forwards_B102 _ _ _ _ _ _ _ _) _ _ _ _
          unfold f_X7_forwards_B102
          simp (disch := omega) only [c_bnd, c_chk, c_lb0, c_lb1, c_lb2, c_lb3, L0, L1, L2, L10007, nI_add, pk_mul, ile_t, ile_f, ilt_t, ilt_f, ieq_t, ieq_f, c_rmI, setF_at, setF_ne, setF_setF, true_and, up1_at, up1_ne, pk_sub, pk_cpy_in, pk_cpy_out, Nat.zero_add, Nat.add_zero, Nat.zero_mul, Nat.sub_zero, Nat.add_sub_cancel_left, c_gfI h.ob, c_pfI h.ob, c_chkO h.ob, c_gfR h.ob h.rpool, c_ldI h.gpool, c_stI h.gpool, m_iAt, m_fAt, m_at, m_many h, L12, L13, L25, L144, L313, c_gfR h.ob h.rparts, c_ldI h.gparts, c_stI h.gparts, g0, g1]
          refine mx_eq rfl ⟨f11.trans frF.set, b11.of (by rw [setF_ne (by omega)]) (fun y a b => setF_ne (by omega)), fun j hj => by rw [setF_ne (by omega)]; exact v11 j hj, d11.put hn12 (fun y e => ?_) (fun i a b => ?_) (fun i a b => ?_) (fun l' i j a1 a2 a3 a4 => ?_)⟩
          · simp (disch := omega) only [c_bnd, c_chk, c_lb0, c_lb1, c_lb2, c_lb3, L0, L1, L2, L10007, nI_add, pk_mul, ile_t, ile_f, ilt_t, ilt_f, ieq_t, ieq_f, c_rmI, setF_at, setF_ne, setF_setF, true_and, up1_at, up1_ne, pk_sub, pk_cpy_in, pk_cpy_out, Nat.zero_add, Nat.add_zero, Nat.zero_mul, Nat.sub_zero, Nat.add_sub_cancel_left]
          · refine Or.inl ⟨b, ?_⟩
            simp (disch := omega) only [c_bnd, c_chk, c_lb0, c_lb1, c_lb2, c_lb3, L0, L1, L2, L10007, nI_add, pk_mul, ile_t, ile_f, ilt_t, ilt_f, ieq_t, ieq_f, c_rmI, setF_at, setF_ne, setF_setF, true_and, up1_at, up1_ne, pk_sub, pk_cpy_in, pk_cpy_out, Nat.zero_add, Nat.add_zero, Nat.zero_mul, Nat.sub_zero, Nat.add_sub_cancel_left]
          · refine Or.inl ⟨b, ?_⟩
            simp (disch := omega) only [c_bnd, c_chk, c_lb0, c_lb1, c_lb2, c_lb3, L0, L1, L2, L10007, nI_add, pk_mul, ile_t, ile_f, ilt_t, ilt_f, ieq_t, ieq_f, c_rmI, setF_at, setF_ne, setF_setF, true_and, up1_at, up1_ne, pk_sub, pk_cpy_in, pk_cpy_out, Nat.zero_add, Nat.add_zero, Nat.zero_mul, Nat.sub_zero, Nat.add_sub_cancel_left]
          · by_cases e : l' = l ∧ i = c ∧ j = j'
            · obtain ⟨rfl, rfl, rfl⟩ := e
              refine Or.inr ?_
              simp (disch := omega) only [c_bnd, c_chk, c_lb0, c_lb1, c_lb2, c_lb3, L0, L1, L2, L10007, nI_add, pk_mul, ile_t, ile_f, ilt_t, ilt_f, ieq_t, ieq_f, c_rmI, setF_at, setF_ne, setF_setF, true_and, up1_at, up1_ne, pk_sub, pk_cpy_in, pk_cpy_out, Nat.zero_add, Nat.add_zero, Nat.zero_mul, Nat.sub_zero, Nat.add_sub_cancel_left]
            · refine Or.inl ⟨by omega, ?_⟩
              exact up1_ne (by omega)
        · intro N11 ⟨f11, b11, v11, d11⟩
          show f_X7_forwards_B102 _ _ _ _ _ _ _ _ = _
          unfold f_X7_forwards_B102
          simp (disch := omega) only [c_bnd, c_chk, c_lb0, c_lb1, c_lb2, c_lb3, L0, L1, L2, L10007, nI_add, pk_mul, ile_t, ile_f, ilt_t, ilt_f, ieq_t, ieq_f, c_rmI, setF_at, setF_ne, setF_setF, true_and, up1_at, up1_ne, pk_sub, pk_cpy_in, pk_cpy_out, Nat.zero_add, Nat.add_zero, Nat.zero_mul, Nat.sub_zero, Nat.add_sub_cancel_left, c_gfI h.ob, c_pfI h.ob, c_chkO h.ob, c_gfR h.ob h.rpool, c_ldI h.gpool, c_stI h.gpool, m_iAt, m_fAt, m_at, m_many h, L12, L13, L25, L144, L313, b11.1]
        · intro N11 ⟨f11, b11, v11, d11⟩
          rw [L1, nI_add]
          exact mx_eq rfl ⟨f11, b11, d11.mono (fun i _ e => e) (fun i _ e => e) (fun l' i j _ _ a e => by omega)⟩
      · intro N7 _
        show f_X7_forwards_B64 _ _ _ _ _ _ _ = _
        unfold f_X7_forwards_B64
        simp (disch := omega) only [c_bnd, c_chk, c_lb0, c_lb1, c_lb2, c_lb3, L0, L1, L2, L10007, nI_add, pk_mul, ile_t, ile_f, ilt_t, ilt_f, ieq_t, ieq_f, c_rmI, setF_at, setF_ne, setF_setF, true_and, up1_at, up1_ne, pk_sub, pk_cpy_in, pk_cpy_out, Nat.zero_add, Nat.add_zero, Nat.zero_mul, Nat.sub_zero, Nat.add_sub_cancel_left]
      · intro N7 ⟨f7, b7, d7⟩
        rw [L1, nI_add]
        exact mx_eq rfl ⟨f7, b7, d7.mono (fun i _ e => e) (fun i _ e => e) (fun l' i j _ _ a e => by omega)⟩
    show Mx (f_X7_forwards_B17 _ _ _ _ _ _) _ _ _ _
    unfold f_X7_forwards_B17
    rw [c_gfI h.ob, b3.1, ile_f (by omega) (by omega), c_gfR h.ob h.rpool (by omega), m_iAt, c_bnd]
    by_cases e : c = 0
    · subst e
      rw [if_pos (show nI 0 = (0 : Int32) from rfl)]
      exact main 1 (by omega) (by rw [hini, if_pos rfl])
    · rw [L0, ieq_f e (by omega) (by omega)]
      exact main 0 (by omega) (by rw [hini, if_neg e])
  · intro N3 ⟨f3, b3, d3⟩
    show f_X7_forwards_B17 _ _ _ _ _ _ = _
    unfold f_X7_forwards_B17
    rw [c_gfI h.ob, b3.1, hn, ile_t (by omega) (by omega)]
  · intro N3 ⟨f3, b3, d3⟩
    refine mx_eq rfl ⟨f3, fun z hz => ?_, d3.toAu (fun i a => a) (fun i a => a) (fun l i j _ a _ => a)⟩
    have := d3.1.2 z hz
    rw [setF_at] at this
    exact this
end MF
