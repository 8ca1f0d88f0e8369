/-! ===== the model: its arrays, its pool ===== -/
def mS (Γ : zSh) (R : Nat → Nat → Nat) (p : Nat) : Prop := Γ p = some (12, 0) ∧ (∀ f k t n, (f, k, t, n) ∈ [(0, 1, 0, 8138), (1, 2, 0, 5008), (5, 3, 0, 24), (6, 4, 0, 24), (7, 5, 0, 576), (8, 6, 0, 576), (9, 7, 0, 576), (10, 8, 0, 24), (11, 9, 0, 24), (13, 10, 0, 24), (14, 11, 0, 24), (15, 12, 0, 1024), (16, 13, 0, 43), (17, 14, 0, 60), (23, 15, 1, 9), (24, 16, 1, 9)] → Γ (p + k) = some (t, n) ∧ R p f = p + k)
theorem mS.ob {Γ : zSh} {R : Nat → Nat → Nat} {p : Nat} (h : mS Γ R p) : Γ p = some (7 + 5, 0) := h.1
theorem mS.gpool {Γ : zSh} {R : Nat → Nat → Nat} {p : Nat} (h : mS Γ R p) : Γ (p + 1) = some (0, 8138) := (h.2 0 1 0 8138 (by decide)).1
theorem mS.rpool {Γ : zSh} {R : Nat → Nat → Nat} {p : Nat} (h : mS Γ R p) : R p 0 = p + 1 := (h.2 0 1 0 8138 (by decide)).2
theorem mS.gsaved {Γ : zSh} {R : Nat → Nat → Nat} {p : Nat} (h : mS Γ R p) : Γ (p + 2) = some (0, 5008) := (h.2 1 2 0 5008 (by decide)).1
theorem mS.rsaved {Γ : zSh} {R : Nat → Nat → Nat} {p : Nat} (h : mS Γ R p) : R p 1 = p + 2 := (h.2 1 2 0 5008 (by decide)).2
theorem mS.grow {Γ : zSh} {R : Nat → Nat → Nat} {p : Nat} (h : mS Γ R p) : Γ (p + 3) = some (0, 24) := (h.2 5 3 0 24 (by decide)).1
theorem mS.rrow {Γ : zSh} {R : Nat → Nat → Nat} {p : Nat} (h : mS Γ R p) : R p 5 = p + 3 := (h.2 5 3 0 24 (by decide)).2
theorem mS.gnext {Γ : zSh} {R : Nat → Nat → Nat} {p : Nat} (h : mS Γ R p) : Γ (p + 4) = some (0, 24) := (h.2 6 4 0 24 (by decide)).1
theorem mS.rnext {Γ : zSh} {R : Nat → Nat → Nat} {p : Nat} (h : mS Γ R p) : R p 6 = p + 4 := (h.2 6 4 0 24 (by decide)).2
theorem mS.gbasis {Γ : zSh} {R : Nat → Nat → Nat} {p : Nat} (h : mS Γ R p) : Γ (p + 5) = some (0, 576) := (h.2 7 5 0 576 (by decide)).1
theorem mS.rbasis {Γ : zSh} {R : Nat → Nat → Nat} {p : Nat} (h : mS Γ R p) : R p 7 = p + 5 := (h.2 7 5 0 576 (by decide)).2
theorem mS.glead {Γ : zSh} {R : Nat → Nat → Nat} {p : Nat} (h : mS Γ R p) : Γ (p + 6) = some (0, 576) := (h.2 8 6 0 576 (by decide)).1
theorem mS.rlead {Γ : zSh} {R : Nat → Nat → Nat} {p : Nat} (h : mS Γ R p) : R p 8 = p + 6 := (h.2 8 6 0 576 (by decide)).2
theorem mS.gmade {Γ : zSh} {R : Nat → Nat → Nat} {p : Nat} (h : mS Γ R p) : Γ (p + 7) = some (0, 576) := (h.2 9 7 0 576 (by decide)).1
theorem mS.rmade {Γ : zSh} {R : Nat → Nat → Nat} {p : Nat} (h : mS Γ R p) : R p 9 = p + 7 := (h.2 9 7 0 576 (by decide)).2
theorem mS.gleads {Γ : zSh} {R : Nat → Nat → Nat} {p : Nat} (h : mS Γ R p) : Γ (p + 8) = some (0, 24) := (h.2 10 8 0 24 (by decide)).1
theorem mS.rleads {Γ : zSh} {R : Nat → Nat → Nat} {p : Nat} (h : mS Γ R p) : R p 10 = p + 8 := (h.2 10 8 0 24 (by decide)).2
theorem mS.gwords {Γ : zSh} {R : Nat → Nat → Nat} {p : Nat} (h : mS Γ R p) : Γ (p + 9) = some (0, 24) := (h.2 11 9 0 24 (by decide)).1
theorem mS.rwords {Γ : zSh} {R : Nat → Nat → Nat} {p : Nat} (h : mS Γ R p) : R p 11 = p + 9 := (h.2 11 9 0 24 (by decide)).2
theorem mS.gleft {Γ : zSh} {R : Nat → Nat → Nat} {p : Nat} (h : mS Γ R p) : Γ (p + 10) = some (0, 24) := (h.2 13 10 0 24 (by decide)).1
theorem mS.rleft {Γ : zSh} {R : Nat → Nat → Nat} {p : Nat} (h : mS Γ R p) : R p 13 = p + 10 := (h.2 13 10 0 24 (by decide)).2
theorem mS.gparts {Γ : zSh} {R : Nat → Nat → Nat} {p : Nat} (h : mS Γ R p) : Γ (p + 11) = some (0, 24) := (h.2 14 11 0 24 (by decide)).1
theorem mS.rparts {Γ : zSh} {R : Nat → Nat → Nat} {p : Nat} (h : mS Γ R p) : R p 14 = p + 11 := (h.2 14 11 0 24 (by decide)).2
theorem mS.ggrid {Γ : zSh} {R : Nat → Nat → Nat} {p : Nat} (h : mS Γ R p) : Γ (p + 12) = some (0, 1024) := (h.2 15 12 0 1024 (by decide)).1
theorem mS.rgrid {Γ : zSh} {R : Nat → Nat → Nat} {p : Nat} (h : mS Γ R p) : R p 15 = p + 12 := (h.2 15 12 0 1024 (by decide)).2
theorem mS.gtotals {Γ : zSh} {R : Nat → Nat → Nat} {p : Nat} (h : mS Γ R p) : Γ (p + 13) = some (0, 43) := (h.2 16 13 0 43 (by decide)).1
theorem mS.rtotals {Γ : zSh} {R : Nat → Nat → Nat} {p : Nat} (h : mS Γ R p) : R p 16 = p + 13 := (h.2 16 13 0 43 (by decide)).2
theorem mS.gtext {Γ : zSh} {R : Nat → Nat → Nat} {p : Nat} (h : mS Γ R p) : Γ (p + 14) = some (0, 60) := (h.2 17 14 0 60 (by decide)).1
theorem mS.rtext {Γ : zSh} {R : Nat → Nat → Nat} {p : Nat} (h : mS Γ R p) : R p 17 = p + 14 := (h.2 17 14 0 60 (by decide)).2
theorem mS.ghsum {Γ : zSh} {R : Nat → Nat → Nat} {p : Nat} (h : mS Γ R p) : Γ (p + 15) = some (1, 9) := (h.2 23 15 1 9 (by decide)).1
theorem mS.rhsum {Γ : zSh} {R : Nat → Nat → Nat} {p : Nat} (h : mS Γ R p) : R p 23 = p + 15 := (h.2 23 15 1 9 (by decide)).2
theorem mS.ghprod {Γ : zSh} {R : Nat → Nat → Nat} {p : Nat} (h : mS Γ R p) : Γ (p + 16) = some (1, 9) := (h.2 24 16 1 9 (by decide)).1
theorem mS.rhprod {Γ : zSh} {R : Nat → Nat → Nat} {p : Nat} (h : mS Γ R p) : R p 24 = p + 16 := (h.2 24 16 1 9 (by decide)).2
def mAu (N : Mem) (p q : Nat) (A : Au) : Prop := N (p + 1) (313 * q) = A.1 ∧ ∀ i, i < A.1 → N (p + 1) (313 * q + 1 + i) = A.2.1 i ∧ N (p + 1) (313 * q + 13 + i) = A.2.2.1 i ∧ ∀ j l, j < A.1 → l < 2 → N (p + 1) (313 * q + 25 + 144 * l + 12 * i + j) = A.2.2.2 l i j
def frP (N N' : Mem) (p lo hi : Nat) : Prop := frA N N' (p + 1) (p + 2) ∧ ∀ z, z < lo ∨ hi ≤ z → N' (p + 1) z = N (p + 1) z
theorem frP.refl {N : Mem} {p lo hi : Nat} : frP N N p lo hi := ⟨frA.refl, fun _ _ => rfl⟩
theorem frP.trans {N N1 N2 : Mem} {p lo hi : Nat} (h : frP N N1 p lo hi) (k : frP N1 N2 p lo hi) : frP N N2 p lo hi := ⟨h.1.trans k.1, fun z e => (k.2 z e).trans (h.2 z e)⟩
theorem frP.mono {N N1 : Mem} {p lo hi lo' hi' : Nat} (h : frP N N1 p lo hi) (h1 : lo' ≤ lo) (h2 : hi ≤ hi') : frP N N1 p lo' hi' := ⟨h.1, fun z e => h.2 z (by omega)⟩
theorem frP.set {N : Mem} {p lo hi k v : Nat} (h : lo ≤ k) (h2 : k < hi) : frP N (setF N (p + 1) (up1 (N (p + 1)) k v)) p lo hi := ⟨frA.set (by omega) (by omega), fun z e => by rw [setF_at, up1_ne (by omega)]⟩
theorem mAu.fr {N N' : Mem} {p q lo hi : Nat} {A : Au} (h : mAu N p q A) (hA : A.1 ≤ 12) (e : frP N N' p lo hi) (d : 313 * q + 313 ≤ lo ∨ hi ≤ 313 * q) : mAu N' p q A := by
  refine ⟨by rw [e.2 _ (by omega)]; exact h.1, fun i hi => ⟨?_, ?_, fun j l hj hl => ?_⟩⟩
  · rw [e.2 _ (by omega)]; exact (h.2 i hi).1
  · rw [e.2 _ (by omega)]; exact (h.2 i hi).2.1
  · rw [e.2 _ (by omega)]; exact (h.2 i hi).2.2 j l hj hl
theorem mAu.frA {N N' : Mem} {p q lo hi : Nat} {A : Au} (h : mAu N p q A) (e : frA N N' lo hi) (d : p + 1 < lo ∨ hi ≤ p + 1) : mAu N' p q A := by
  refine ⟨by rw [e _ (by omega)]; exact h.1, fun i hi => ⟨?_, ?_, fun j l hj hl => ?_⟩⟩
  · rw [e _ (by omega)]; exact (h.2 i hi).1
  · rw [e _ (by omega)]; exact (h.2 i hi).2.1
  · rw [e _ (by omega)]; exact (h.2 i hi).2.2 j l hj hl
section MA
variable {Γ : zSh} {N : Mem} {R : Nat → Nat → Nat} {J : Nat → Nat → Int64} {p q x y n l : Nat} {A X Y : Au}
theorem m_iAt {q i : Nat} {σ : zSt} : f_X7_initialAt Γ (nI q) (nI i) σ = some (nI (313 * q + 1 + i), σ) := by
  unfold f_X7_initialAt
  simp (disch := omega) only [c_bnd, c_chk, c_lb0, c_lb1, c_lb2, c_lb3, L0, L1, L2, L10007, nI_add, pk_mul, ile_t, ile_f, ilt_t, ilt_f, ieq_t, ieq_f, c_rmI, setF_at, setF_ne, setF_setF, true_and, up1_at, up1_ne, pk_sub, pk_cpy_in, pk_cpy_out, Nat.zero_add, Nat.add_zero, Nat.zero_mul, Nat.sub_zero, Nat.add_sub_cancel_left, L313]
theorem m_fAt {q i : Nat} {σ : zSt} : f_X7_finalAt Γ (nI q) (nI i) σ = some (nI (313 * q + 13 + i), σ) := by
  unfold f_X7_finalAt
  simp (disch := omega) only [c_bnd, c_chk, c_lb0, c_lb1, c_lb2, c_lb3, L0, L1, L2, L10007, nI_add, pk_mul, ile_t, ile_f, ilt_t, ilt_f, ieq_t, ieq_f, c_rmI, setF_at, setF_ne, setF_setF, true_and, up1_at, up1_ne, pk_sub, pk_cpy_in, pk_cpy_out, Nat.zero_add, Nat.add_zero, Nat.zero_mul, Nat.sub_zero, Nat.add_sub_cancel_left, L313, L13]
theorem m_at {q l i j : Nat} {σ : zSt} : f_X7_at Γ (nI q) (nI l) (nI i) (nI j) σ = some (nI (313 * q + 25 + 144 * l + 12 * i + j), σ) := by
  unfold f_X7_at
  simp (disch := omega) only [c_bnd, c_chk, c_lb0, c_lb1, c_lb2, c_lb3, L0, L1, L2, L10007, nI_add, pk_mul, ile_t, ile_f, ilt_t, ilt_f, ieq_t, ieq_f, c_rmI, setF_at, setF_ne, setF_setF, true_and, up1_at, up1_ne, pk_sub, pk_cpy_in, pk_cpy_out, Nat.zero_add, Nat.add_zero, Nat.zero_mul, Nat.sub_zero, Nat.add_sub_cancel_left, L313, L25, L144, L12]
theorem m_many (h : mS Γ R p) (hq : q < 26) : f_X7_many Γ p (nI q) (cS N R J) = some (nI (N (p + 1) (313 * q)), cS N R J) := by
  unfold f_X7_many
  simp (disch := omega) only [c_bnd, c_chk, c_lb0, c_lb1, c_lb2, c_lb3, L0, L1, L2, L10007, nI_add, pk_mul, ile_t, ile_f, ilt_t, ilt_f, ieq_t, ieq_f, c_rmI, setF_at, setF_ne, setF_setF, true_and, up1_at, up1_ne, pk_sub, pk_cpy_in, pk_cpy_out, Nat.zero_add, Nat.add_zero, Nat.zero_mul, Nat.sub_zero, Nat.add_sub_cancel_left, c_gfR h.ob h.rpool, c_ldI h.gpool, L313]
theorem m_clears (h : mS Γ R p) (hq : q < 26) : Mx (f_X7_clears Γ p (nI q) (nI n) (cS N R J)) (fun σ => ((), σ)) R J (fun N' => frP N N' p (313 * q) (313 * q + 313) ∧ N' (p + 1) (313 * q) = n ∧ ∀ z, 0 < z → z < 313 → N' (p + 1) (313 * q + z) = 0) := by
  unfold f_X7_clears
  simp (disch := omega) only [c_bnd, c_chk, c_lb0, c_lb1, c_lb2, c_lb3, L0, L1, L2, L10007, nI_add, pk_mul, ile_t, ile_f, ilt_t, ilt_f, ieq_t, ieq_f, c_rmI, setF_at, setF_ne, setF_setF, true_and, up1_at, up1_ne, pk_sub, pk_cpy_in, pk_cpy_out, Nat.zero_add, Nat.add_zero, Nat.zero_mul, Nat.sub_zero, Nat.add_sub_cancel_left, c_gfI h.ob, c_pfI h.ob, c_chkO h.ob, c_gfR h.ob h.rpool, c_ldI h.gpool, c_stI h.gpool, m_iAt, m_fAt, m_at, m_many h, L12, L13, L25, L144, L313]
  refine mx_lb0 (mx_for (fun c N' => frP N N' p (313 * q) (313 * q + 313) ∧ ∀ z, z < c → N' (p + 1) (313 * q + z) = 0) (s := 0) (e := 313) (by omega) (by omega) ⟨frP.refl, fun z e => absurd e (by omega)⟩ ?_ ?_) ?_
  · intro c N1 _ hc ⟨p1, p2⟩
    show Mx (f_X7_clears_B2 _ _ _ _ _ _) _ _ _ _
    unfold f_X7_clears_B2
    simp (disch := omega) only [c_bnd, c_chk, c_lb0, c_lb1, c_lb2, c_lb3, L0, L1, L2, L10007, nI_add, pk_mul, ile_t, ile_f, ilt_t, ilt_f, ieq_t, ieq_f, c_rmI, setF_at, setF_ne, setF_setF, true_and, up1_at, up1_ne, pk_sub, pk_cpy_in, pk_cpy_out, Nat.zero_add, Nat.add_zero, Nat.zero_mul, Nat.sub_zero, Nat.add_sub_cancel_left, c_gfI h.ob, c_pfI h.ob, c_chkO h.ob, c_gfR h.ob h.rpool, c_ldI h.gpool, c_stI h.gpool, m_iAt, m_fAt, m_at, m_many h, L12, L13, L25, L144, L313]
    refine mx_eq rfl ?_
    refine ⟨p1.trans (frP.set (by omega) (by omega)), fun z hz => ?_⟩
    by_cases e : z = c
    · subst e
      simp (disch := omega) only [c_bnd, c_chk, c_lb0, c_lb1, c_lb2, c_lb3, L0, L1, L2, L10007, nI_add, pk_mul, ile_t, ile_f, ilt_t, ilt_f, ieq_t, ieq_f, c_rmI, setF_at, setF_ne, setF_setF, true_and, up1_at, up1_ne, pk_sub, pk_cpy_in, pk_cpy_out, Nat.zero_add, Nat.add_zero, Nat.zero_mul, Nat.sub_zero, Nat.add_sub_cancel_left]
    · simp (disch := omega) only [c_bnd, c_chk, c_lb0, c_lb1, c_lb2, c_lb3, L0, L1, L2, L10007, nI_add, pk_mul, ile_t, ile_f, ilt_t, ilt_f, ieq_t, ieq_f, c_rmI, setF_at, setF_ne, setF_setF, true_and, up1_at, up1_ne, pk_sub, pk_cpy_in, pk_cpy_out, Nat.zero_add, Nat.add_zero, Nat.zero_mul, Nat.sub_zero, Nat.add_sub_cancel_left]
      exact p2 z (by omega)
  · intro N1 _
    show f_X7_clears_B2 _ _ _ _ _ _ = _
    unfold f_X7_clears_B2
    simp (disch := omega) only [c_bnd, c_chk, c_lb0, c_lb1, c_lb2, c_lb3, L0, L1, L2, L10007, nI_add, pk_mul, ile_t, ile_f, ilt_t, ilt_f, ieq_t, ieq_f, c_rmI, setF_at, setF_ne, setF_setF, true_and, up1_at, up1_ne, pk_sub, pk_cpy_in, pk_cpy_out, Nat.zero_add, Nat.add_zero, Nat.zero_mul, Nat.sub_zero, Nat.add_sub_cancel_left, L313]
  · intro N1 ⟨p1, p2⟩
    simp (disch := omega) only [c_bnd, c_chk, c_lb0, c_lb1, c_lb2, c_lb3, L0, L1, L2, L10007, nI_add, pk_mul, ile_t, ile_f, ilt_t, ilt_f, ieq_t, ieq_f, c_rmI, setF_at, setF_ne, setF_setF, true_and, up1_at, up1_ne, pk_sub, pk_cpy_in, pk_cpy_out, Nat.zero_add, Nat.add_zero, Nat.zero_mul, Nat.sub_zero, Nat.add_sub_cancel_left, c_gfI h.ob, c_pfI h.ob, c_chkO h.ob, c_gfR h.ob h.rpool, c_ldI h.gpool, c_stI h.gpool, m_iAt, m_fAt, m_at, m_many h, L12, L13, L25, L144, L313]
    refine mx_eq rfl ?_
    refine ⟨p1.trans (frP.set (by omega) (by omega)), ?_, fun z h1 h2 => ?_⟩
    · simp (disch := omega) only [c_bnd, c_chk, c_lb0, c_lb1, c_lb2, c_lb3, L0, L1, L2, L10007, nI_add, pk_mul, ile_t, ile_f, ilt_t, ilt_f, ieq_t, ieq_f, c_rmI, setF_at, setF_ne, setF_setF, true_and, up1_at, up1_ne, pk_sub, pk_cpy_in, pk_cpy_out, Nat.zero_add, Nat.add_zero, Nat.zero_mul, Nat.sub_zero, Nat.add_sub_cancel_left]
    · simp (disch := omega) only [c_bnd, c_chk, c_lb0, c_lb1, c_lb2, c_lb3, L0, L1, L2, L10007, nI_add, pk_mul, ile_t, ile_f, ilt_t, ilt_f, ieq_t, ieq_f, c_rmI, setF_at, setF_ne, setF_setF, true_and, up1_at, up1_ne, pk_sub, pk_cpy_in, pk_cpy_out, Nat.zero_add, Nat.add_zero, Nat.zero_mul, Nat.sub_zero, Nat.add_sub_cancel_left]
      exact p2 z h2
theorem m_copies (h : mS Γ R p) (hx : x < 26) (hq : q < 26) (hxq : x ≠ q) (hX : mAu N p x X) (hX12 : X.1 ≤ 12) : Mx (f_X7_copies Γ p (nI x) (nI q) (cS N R J)) (fun σ => ((), σ)) R J (fun N' => frP N N' p (313 * q) (313 * q + 313) ∧ mAu N' p q X) := by
  unfold f_X7_copies
  simp (disch := omega) only [c_bnd, c_chk, c_lb0, c_lb1, c_lb2, c_lb3, L0, L1, L2, L10007, nI_add, pk_mul, ile_t, ile_f, ilt_t, ilt_f, ieq_t, ieq_f, c_rmI, setF_at, setF_ne, setF_setF, true_and, up1_at, up1_ne, pk_sub, pk_cpy_in, pk_cpy_out, Nat.zero_add, Nat.add_zero, Nat.zero_mul, Nat.sub_zero, Nat.add_sub_cancel_left, c_gfI h.ob, c_pfI h.ob, c_chkO h.ob, c_gfR h.ob h.rpool, c_ldI h.gpool, c_stI h.gpool, m_iAt, m_fAt, m_at, m_many h, L12, L13, L25, L144, L313]
  refine mx_lb0 (mx_for (fun c N' => frP N N' p (313 * q) (313 * q + 313) ∧ ∀ z, z < c → N' (p + 1) (313 * q + z) = N (p + 1) (313 * x + z)) (s := 0) (e := 313) (by omega) (by omega) ⟨frP.refl, fun z e => absurd e (by omega)⟩ ?_ ?_) ?_
  · intro c N1 _ hc ⟨p1, p2⟩
    have e1 : N1 (p + 1) (313 * x + c) = N (p + 1) (313 * x + c) := p1.2 _ (by omega)
    show Mx (f_X7_copies_B2 _ _ _ _ _ _) _ _ _ _
    unfold f_X7_copies_B2
    simp (disch := omega) only [c_bnd, c_chk, c_lb0, c_lb1, c_lb2, c_lb3, L0, L1, L2, L10007, nI_add, pk_mul, ile_t, ile_f, ilt_t, ilt_f, ieq_t, ieq_f, c_rmI, setF_at, setF_ne, setF_setF, true_and, up1_at, up1_ne, pk_sub, pk_cpy_in, pk_cpy_out, Nat.zero_add, Nat.add_zero, Nat.zero_mul, Nat.sub_zero, Nat.add_sub_cancel_left, c_gfI h.ob, c_pfI h.ob, c_chkO h.ob, c_gfR h.ob h.rpool, c_ldI h.gpool, c_stI h.gpool, m_iAt, m_fAt, m_at, m_many h, L12, L13, L25, L144, L313, e1]
    refine mx_eq rfl ?_
    refine ⟨p1.trans (frP.set (by omega) (by omega)), fun z hz => ?_⟩
    by_cases e : z = c
    · subst e
      simp (disch := omega) only [c_bnd, c_chk, c_lb0, c_lb1, c_lb2, c_lb3, L0, L1, L2, L10007, nI_add, pk_mul, ile_t, ile_f, ilt_t, ilt_f, ieq_t, ieq_f, c_rmI, setF_at, setF_ne, setF_setF, true_and, up1_at, up1_ne, pk_sub, pk_cpy_in, pk_cpy_out, Nat.zero_add, Nat.add_zero, Nat.zero_mul, Nat.sub_zero, Nat.add_sub_cancel_left]
    · simp (disch := omega) only [c_bnd, c_chk, c_lb0, c_lb1, c_lb2, c_lb3, L0, L1, L2, L10007, nI_add, pk_mul, ile_t, ile_f, ilt_t, ilt_f, ieq_t, ieq_f, c_rmI, setF_at, setF_ne, setF_setF, true_and, up1_at, up1_ne, pk_sub, pk_cpy_in, pk_cpy_out, Nat.zero_add, Nat.add_zero, Nat.zero_mul, Nat.sub_zero, Nat.add_sub_cancel_left]
      exact p2 z (by omega)
  · intro N1 _
    show f_X7_copies_B2 _ _ _ _ _ _ = _
    unfold f_X7_copies_B2
    simp (disch := omega) only [c_bnd, c_chk, c_lb0, c_lb1, c_lb2, c_lb3, L0, L1, L2, L10007, nI_add, pk_mul, ile_t, ile_f, ilt_t, ilt_f, ieq_t, ieq_f, c_rmI, setF_at, setF_ne, setF_setF, true_and, up1_at, up1_ne, pk_sub, pk_cpy_in, pk_cpy_out, Nat.zero_add, Nat.add_zero, Nat.zero_mul, Nat.sub_zero, Nat.add_sub_cancel_left, L313]
  · intro N1 ⟨p1, p2⟩
    refine mx_eq rfl ?_
    refine ⟨p1, ?_, fun i hi => ⟨?_, ?_, fun j l hj hl => ?_⟩⟩
    · rw [← hX.1]; exact p2 0 (by omega)
    · rw [← (hX.2 i hi).1, Nat.add_assoc, Nat.add_assoc]; exact p2 (1 + i) (by omega)
    · rw [← (hX.2 i hi).2.1, Nat.add_assoc, Nat.add_assoc]; exact p2 (13 + i) (by omega)
    · rw [← (hX.2 i hi).2.2 j l hj hl]
      have := p2 (25 + 144 * l + 12 * i + j) (by omega)
      rw [show 313 * q + 25 + 144 * l + 12 * i + j = 313 * q + (25 + 144 * l + 12 * i + j) by omega, show 313 * x + 25 + 144 * l + 12 * i + j = 313 * x + (25 + 144 * l + 12 * i + j) by omega]
      exact this
theorem m_empty (h : mS Γ R p) (hx : x < 26) (hX : mAu N p x X) (hX12 : X.1 ≤ 12) (ok : okA X) : f_X7_emptyWeight Γ p (nI x) (cS N R J) = some (nI (wtA X X.2.1), cS N R J) := by
  have e0 := hX.1
  unfold f_X7_emptyWeight
  rw [L0]
  refine (lb1_of (loop_for (fun k => (nI (nsum k (fun j => X.2.1 j * X.2.2.1 j) % 10007), nI k, cS N R J)) (nI (wtA X X.2.1), cS N R J) X.1 rfl (by unfold FUEL; omega) ?_ ?_)).trans rfl
  · intro k hk
    have e1 := pmul (ok k hk).1 (ok k hk).2.1
    have e2 := mlt (nsum k (fun j => X.2.1 j * X.2.2.1 j))
    have e4 := (hX.2 k hk).1
    have e5 := (hX.2 k hk).2.1
    show f_X7_emptyWeight_B4 _ _ _ _ _ _ = _
    unfold f_X7_emptyWeight_B4
    simp (disch := omega) only [c_bnd, c_chk, c_lb0, c_lb1, c_lb2, c_lb3, L0, L1, L2, L10007, nI_add, pk_mul, ile_t, ile_f, ilt_t, ilt_f, ieq_t, ieq_f, c_rmI, setF_at, setF_ne, setF_setF, true_and, up1_at, up1_ne, pk_sub, pk_cpy_in, pk_cpy_out, Nat.zero_add, Nat.add_zero, Nat.zero_mul, Nat.sub_zero, Nat.add_sub_cancel_left, c_gfI h.ob, c_pfI h.ob, c_chkO h.ob, c_gfR h.ob h.rpool, c_ldI h.gpool, c_stI h.gpool, m_iAt, m_fAt, m_at, m_many h, L12, L13, L25, L144, L313, e0, e4, e5, mod_acc]
    rfl
  · show f_X7_emptyWeight_B4 _ _ _ _ _ _ = _
    unfold f_X7_emptyWeight_B4
    simp (disch := omega) only [c_bnd, c_chk, c_lb0, c_lb1, c_lb2, c_lb3, L0, L1, L2, L10007, nI_add, pk_mul, ile_t, ile_f, ilt_t, ilt_f, ieq_t, ieq_f, c_rmI, setF_at, setF_ne, setF_setF, true_and, up1_at, up1_ne, pk_sub, pk_cpy_in, pk_cpy_out, Nat.zero_add, Nat.add_zero, Nat.zero_mul, Nat.sub_zero, Nat.add_sub_cancel_left, c_gfI h.ob, c_pfI h.ob, c_chkO h.ob, c_gfR h.ob h.rpool, c_ldI h.gpool, c_stI h.gpool, m_iAt, m_fAt, m_at, m_many h, L12, L13, L25, L144, L313, e0]
    rfl
theorem m_out (h : mS Γ R p) (hx : x < 26) (hX : mAu N p x X) (hX12 : X.1 ≤ 12) (ok : okA X) (hl : l < 2) {i : Nat} (hi : i < X.1) : f_X7_out Γ p (nI x) (nI l) (nI i) (cS N R J) = some (nI (outA X l i), cS N R J) := by
  have e0 := hX.1
  unfold f_X7_out
  rw [L0]
  refine (lb1_of (loop_for (fun k => (nI (nsum k (fun j => X.2.2.2 l i j * X.2.2.1 j) % 10007), nI k, cS N R J)) (nI (outA X l i), cS N R J) X.1 rfl (by unfold FUEL; omega) ?_ ?_)).trans rfl
  · intro k hk
    have e1 := pmul ((ok i hi).2.2 k l hk hl) (ok k hk).2.1
    have e2 := mlt (nsum k (fun j => X.2.2.2 l i j * X.2.2.1 j))
    have e4 := (hX.2 i hi).2.2 k l hk hl
    have e5 := (hX.2 k hk).2.1
    show f_X7_out_B6 _ _ _ _ _ _ _ _ = _
    unfold f_X7_out_B6
    simp (disch := omega) only [c_bnd, c_chk, c_lb0, c_lb1, c_lb2, c_lb3, L0, L1, L2, L10007, nI_add, pk_mul, ile_t, ile_f, ilt_t, ilt_f, ieq_t, ieq_f, c_rmI, setF_at, setF_ne, setF_setF, true_and, up1_at, up1_ne, pk_sub, pk_cpy_in, pk_cpy_out, Nat.zero_add, Nat.add_zero, Nat.zero_mul, Nat.sub_zero, Nat.add_sub_cancel_left, c_gfI h.ob, c_pfI h.ob, c_chkO h.ob, c_gfR h.ob h.rpool, c_ldI h.gpool, c_stI h.gpool, m_iAt, m_fAt, m_at, m_many h, L12, L13, L25, L144, L313, e0, e4, e5, mod_acc]
    rfl
  · show f_X7_out_B6 _ _ _ _ _ _ _ _ = _
    unfold f_X7_out_B6
    simp (disch := omega) only [c_bnd, c_chk, c_lb0, c_lb1, c_lb2, c_lb3, L0, L1, L2, L10007, nI_add, pk_mul, ile_t, ile_f, ilt_t, ilt_f, ieq_t, ieq_f, c_rmI, setF_at, setF_ne, setF_setF, true_and, up1_at, up1_ne, pk_sub, pk_cpy_in, pk_cpy_out, Nat.zero_add, Nat.add_zero, Nat.zero_mul, Nat.sub_zero, Nat.add_sub_cancel_left, c_gfI h.ob, c_pfI h.ob, c_chkO h.ob, c_gfR h.ob h.rpool, c_ldI h.gpool, c_stI h.gpool, m_iAt, m_fAt, m_at, m_many h, L12, L13, L25, L144, L313, e0]
    rfl
theorem m_into (h : mS Γ R p) (hx : x < 26) (hX : mAu N p x X) (hX12 : X.1 ≤ 12) (ok : okA X) (hl : l < 2) {i : Nat} (hi : i < X.1) : f_X7_into Γ p (nI x) (nI l) (nI i) (cS N R J) = some (nI (intA X l i), cS N R J) := by
  have e0 := hX.1
  unfold f_X7_into
  rw [L0]
  refine (lb1_of (loop_for (fun k => (nI (nsum k (fun j => X.2.1 j * X.2.2.2 l j i) % 10007), nI k, cS N R J)) (nI (intA X l i), cS N R J) X.1 rfl (by unfold FUEL; omega) ?_ ?_)).trans rfl
  · intro k hk
    have e1 := pmul (ok k hk).1 ((ok k hk).2.2 i l hi hl)
    have e2 := mlt (nsum k (fun j => X.2.1 j * X.2.2.2 l j i))
    have e4 := (hX.2 k hk).2.2 i l hi hl
    have e5 := (hX.2 k hk).1
    show f_X7_into_B6 _ _ _ _ _ _ _ _ = _
    unfold f_X7_into_B6
    simp (disch := omega) only [c_bnd, c_chk, c_lb0, c_lb1, c_lb2, c_lb3, L0, L1, L2, L10007, nI_add, pk_mul, ile_t, ile_f, ilt_t, ilt_f, ieq_t, ieq_f, c_rmI, setF_at, setF_ne, setF_setF, true_and, up1_at, up1_ne, pk_sub, pk_cpy_in, pk_cpy_out, Nat.zero_add, Nat.add_zero, Nat.zero_mul, Nat.sub_zero, Nat.add_sub_cancel_left, c_gfI h.ob, c_pfI h.ob, c_chkO h.ob, c_gfR h.ob h.rpool, c_ldI h.gpool, c_stI h.gpool, m_iAt, m_fAt, m_at, m_many h, L12, L13, L25, L144, L313, e0, e4, e5, mod_acc]
    rfl
  · show f_X7_into_B6 _ _ _ _ _ _ _ _ = _
    unfold f_X7_into_B6
    simp (disch := omega) only [c_bnd, c_chk, c_lb0, c_lb1, c_lb2, c_lb3, L0, L1, L2, L10007, nI_add, pk_mul, ile_t, ile_f, ilt_t, ilt_f, ieq_t, ieq_f, c_rmI, setF_at, setF_ne, setF_setF, true_and, up1_at, up1_ne, pk_sub, pk_cpy_in, pk_cpy_out, Nat.zero_add, Nat.add_zero, Nat.zero_mul, Nat.sub_zero, Nat.add_sub_cancel_left, c_gfI h.ob, c_pfI h.ob, c_chkO h.ob, c_gfR h.ob h.rpool, c_ldI h.gpool, c_stI h.gpool, m_iAt, m_fAt, m_at, m_many h, L12, L13, L25, L144, L313, e0]
    rfl
end MA
