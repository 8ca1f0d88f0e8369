/-! ===== the class's basis ===== -/
def bS (Γ : zSh) (R : Mem) (b : Nat) : Prop := (Γ b = some (6, 0) ∧ b ≠ 0) ∧ (∀ f k t n, (f, k, t, n) ∈ [(1, 1, 0, 24), (2, 2, 0, 24), (3, 3, 3, 24), (4, 28, 3, 24), (5, 53, 3, 24), (6, 78, 0, 24), (7, 79, 3, 48), (8, 128, 0, 24), (9, 129, 0, 24), (10, 130, 0, 24)] → Γ (b + k) = some (t, n) ∧ R b f = b + k) ∧ (∀ k, k < 24 → (Γ (b + 4 + k) = some (0, 24) ∧ R (b + 3) k = b + 4 + k) ∧ (Γ (b + 29 + k) = some (0, 24) ∧ R (b + 28) k = b + 29 + k) ∧ Γ (b + 54 + k) = some (0, 24) ∧ R (b + 53) k = b + 54 + k) ∧ ∀ k, k < 48 → Γ (b + 80 + k) = some (0, 24) ∧ R (b + 79) k = b + 80 + k
theorem bS.ob {Γ : zSh} {R : Mem} {b : Nat} (h : bS Γ R b) : Γ b = some (1 + 5, 0) := h.1.1
theorem bS.gwords {Γ : zSh} {R : Mem} {b : Nat} (h : bS Γ R b) : Γ (b + 1) = some (0, 24) := (h.2.1 1 1 0 24 (by decide)).1
theorem bS.rwords {Γ : zSh} {R : Mem} {b : Nat} (h : bS Γ R b) : R b 1 = b + 1 := (h.2.1 1 1 0 24 (by decide)).2
theorem bS.gweights {Γ : zSh} {R : Mem} {b : Nat} (h : bS Γ R b) : Γ (b + 2) = some (0, 24) := (h.2.1 2 2 0 24 (by decide)).1
theorem bS.rweights {Γ : zSh} {R : Mem} {b : Nat} (h : bS Γ R b) : R b 2 = b + 2 := (h.2.1 2 2 0 24 (by decide)).2
theorem bS.gvectors {Γ : zSh} {R : Mem} {b : Nat} (h : bS Γ R b) : Γ (b + 3) = some (3, 24) := (h.2.1 3 3 3 24 (by decide)).1
theorem bS.rvectors {Γ : zSh} {R : Mem} {b : Nat} (h : bS Γ R b) : R b 3 = b + 3 := (h.2.1 3 3 3 24 (by decide)).2
theorem bS.gechelon {Γ : zSh} {R : Mem} {b : Nat} (h : bS Γ R b) : Γ (b + 28) = some (3, 24) := (h.2.1 4 28 3 24 (by decide)).1
theorem bS.rechelon {Γ : zSh} {R : Mem} {b : Nat} (h : bS Γ R b) : R b 4 = b + 28 := (h.2.1 4 28 3 24 (by decide)).2
theorem bS.gparts {Γ : zSh} {R : Mem} {b : Nat} (h : bS Γ R b) : Γ (b + 53) = some (3, 24) := (h.2.1 5 53 3 24 (by decide)).1
theorem bS.rparts {Γ : zSh} {R : Mem} {b : Nat} (h : bS Γ R b) : R b 5 = b + 53 := (h.2.1 5 53 3 24 (by decide)).2
theorem bS.gpivots {Γ : zSh} {R : Mem} {b : Nat} (h : bS Γ R b) : Γ (b + 78) = some (0, 24) := (h.2.1 6 78 0 24 (by decide)).1
theorem bS.rpivots {Γ : zSh} {R : Mem} {b : Nat} (h : bS Γ R b) : R b 6 = b + 78 := (h.2.1 6 78 0 24 (by decide)).2
theorem bS.gimages {Γ : zSh} {R : Mem} {b : Nat} (h : bS Γ R b) : Γ (b + 79) = some (3, 48) := (h.2.1 7 79 3 48 (by decide)).1
theorem bS.rimages {Γ : zSh} {R : Mem} {b : Nat} (h : bS Γ R b) : R b 7 = b + 79 := (h.2.1 7 79 3 48 (by decide)).2
theorem bS.gtrial {Γ : zSh} {R : Mem} {b : Nat} (h : bS Γ R b) : Γ (b + 128) = some (0, 24) := (h.2.1 8 128 0 24 (by decide)).1
theorem bS.rtrial {Γ : zSh} {R : Mem} {b : Nat} (h : bS Γ R b) : R b 8 = b + 128 := (h.2.1 8 128 0 24 (by decide)).2
theorem bS.grest {Γ : zSh} {R : Mem} {b : Nat} (h : bS Γ R b) : Γ (b + 129) = some (0, 24) := (h.2.1 9 129 0 24 (by decide)).1
theorem bS.rrest {Γ : zSh} {R : Mem} {b : Nat} (h : bS Γ R b) : R b 9 = b + 129 := (h.2.1 9 129 0 24 (by decide)).2
theorem bS.gcoords {Γ : zSh} {R : Mem} {b : Nat} (h : bS Γ R b) : Γ (b + 130) = some (0, 24) := (h.2.1 10 130 0 24 (by decide)).1
theorem bS.rcoords {Γ : zSh} {R : Mem} {b : Nat} (h : bS Γ R b) : R b 10 = b + 130 := (h.2.1 10 130 0 24 (by decide)).2
def cBs (N : Mem) (b w : Nat) (B : Bs) : Prop := N b 0 = B.1 ∧ ∀ k, k < B.1 → N (b + 1) k = B.2.1 k ∧ N (b + 78) k = B.2.2.1 k ∧ ∀ j, j < w → N (b + 4 + k) j = B.2.2.2.1 k j ∧ N (b + 29 + k) j = B.2.2.2.2.1 k j ∧ N (b + 54 + k) j = B.2.2.2.2.2 k j
def cWt (N : Mem) (b : Nat) (A : Au) (B : Bs) : Prop := ∀ k, k < B.1 → N (b + 2) k = wtA A (B.2.2.2.1 k)
theorem cBs.of {N N' : Mem} {b w : Nat} {B : Bs} (h : cBs N b w B) (hB : B.1 ≤ 24) (e : ∀ x, x < b + 79 → b ≤ x → N' x = N x) : cBs N' b w B := by
  refine ⟨by rw [e b (by omega) (by omega)]; exact h.1, fun k hk => ⟨?_, ?_, fun j hj => ⟨?_, ?_, ?_⟩⟩⟩
  · rw [e _ (by omega) (by omega)]; exact (h.2 k hk).1
  · rw [e _ (by omega) (by omega)]; exact (h.2 k hk).2.1
  · rw [e _ (by omega) (by omega)]; exact ((h.2 k hk).2.2 j hj).1
  · rw [e _ (by omega) (by omega)]; exact ((h.2 k hk).2.2 j hj).2.1
  · rw [e _ (by omega) (by omega)]; exact ((h.2 k hk).2.2 j hj).2.2
theorem fnz_congr {f g : Nat → Nat} : ∀ w, (∀ j, j < w → f j = g j) → fnz f w = fnz g w := by
  intro w
  induction w with
  | zero => exact fun _ => rfl
  | succ w ih =>
    intro h
    unfold fnz
    rw [ih (fun j hj => h j (by omega)), h w (by omega)]
section BC
variable {Γ : zSh} {N : Mem} {R : Mem} {J : Nat → Nat → Int64} {a b cap r o w n m m2 : Nat} {A : Au} {B : Bs} {v : Nat → Nat}
theorem s_addMul (hr : Γ r = some (0, m)) (ho : Γ o = some (0, m2)) (hro : r ≠ o) (hm : w ≤ m) (hm2 : w ≤ m2) (h1 : m ≤ 1000) (h2 : m2 ≤ 1000) {f : Nat} (hf : f ≤ 10007) (b1 : ∀ j, j < w → N r j < 10007) (b2 : ∀ j, j < w → N o j < 10007) : f_X6_addMultiple Γ r (nI f) o (nI w) (cS N R J) = some ((), cS (setF N r (fun j => if j < w then (N r j + f * N o j) % 10007 else N r j)) R J) := by
  unfold f_X6_addMultiple
  rw [L0]
  refine (lb0_of (loop_for (fun k => (nI k, cS (setF N r (fun j => if j < k then (N r j + f * N o j) % 10007 else N r j)) R J)) (cS (setF N r (fun j => if j < w then (N r j + f * N o j) % 10007 else N r j)) R J) w ?_ (by unfold FUEL; omega) ?_ ?_)).trans rfl
  · have : (fun j => if j < 0 then (N r j + f * N o j) % 10007 else N r j) = N r := by
      funext j
      rw [if_neg (by omega)]
    rw [this, setF_self]
  · intro k hk
    have e1 := b1 k hk
    have e2 : f * N o k ≤ 10007 * 10006 := Nat.mul_le_mul hf (Nat.le_of_lt_succ (b2 k hk))
    show f_X6_addMultiple_B3 _ _ _ _ _ _ _ = _
    unfold f_X6_addMultiple_B3
    simp (disch := omega) only [c_bnd, c_chk, c_lb0, c_lb1, c_lb2, c_lb3, L0, L1, L2, L10007, nI_add, pk_mul, ile_t, ile_f, ilt_t, ilt_f, ieq_t, ieq_f, c_rmI, setF_at, setF_ne, setF_setF, true_and, up1_at, up1_ne, pk_sub, pk_cpy_in, pk_cpy_out, Nat.zero_add, Nat.add_zero, Nat.zero_mul, Nat.sub_zero, Nat.add_sub_cancel_left, c_ldI hr, c_ldI ho, c_stI hr, Nat.lt_irrefl, if_false]
    have : up1 (fun j => if j < k then (N r j + f * N o j) % 10007 else N r j) k ((N r k + f * N o k) % 10007) = fun j => if j < k + 1 then (N r j + f * N o j) % 10007 else N r j := by
      funext j
      by_cases e : j = k
      · subst e
        rw [up1_at, if_pos (by omega)]
      · rw [up1_ne e]
        by_cases e2 : j < k
        · rw [if_pos e2, if_pos (by omega)]
        · rw [if_neg e2, if_neg (by omega)]
    rw [this]
  · show f_X6_addMultiple_B3 _ _ _ _ _ _ _ = _
    unfold f_X6_addMultiple_B3
    simp (disch := omega) only [c_bnd, c_chk, c_lb0, c_lb1, c_lb2, c_lb3, L0, L1, L2, L10007, nI_add, pk_mul, ile_t, ile_f, ilt_t, ilt_f, ieq_t, ieq_f, c_rmI, setF_at, setF_ne, setF_setF, true_and, up1_at, up1_ne, pk_sub, pk_cpy_in, pk_cpy_out, Nat.zero_add, Nat.add_zero, Nat.zero_mul, Nat.sub_zero, Nat.add_sub_cancel_left]
theorem s_fnz (hr : Γ r = some (0, m)) (hm : w ≤ m) (h1 : m ≤ 1000) (b1 : ∀ j, j < w → N r j < 10007) : f_X6_firstNonZero Γ r (nI w) (cS N R J) = some (if fnz (N r) w = w then -1 else nI (fnz (N r) w), cS N R J) := by
  have n3 := fnz_le (f := N r) w
  obtain ⟨n1, n2⟩ := fnz_spec (f := N r) w
  generalize fnz (N r) w = i at *
  unfold f_X6_firstNonZero
  rw [L0]
  by_cases e : i = w
  · rw [if_pos e]
    rw [loop_for (fun k => (nI k, cS N R J)) (.inl (cS N R J)) w rfl (by unfold FUEL; omega) ?_ ?_]
    · rfl
    · intro k hk
      have := n1 k (by omega)
      show f_X6_firstNonZero_B2 _ _ _ _ _ = _
      unfold f_X6_firstNonZero_B2
      simp (disch := omega) only [c_bnd, c_chk, c_lb0, c_lb1, c_lb2, c_lb3, L0, L1, L2, L10007, nI_add, pk_mul, ile_t, ile_f, ilt_t, ilt_f, ieq_t, ieq_f, c_rmI, setF_at, setF_ne, setF_setF, true_and, up1_at, up1_ne, pk_sub, pk_cpy_in, pk_cpy_out, Nat.zero_add, Nat.add_zero, Nat.zero_mul, Nat.sub_zero, Nat.add_sub_cancel_left, c_ldI hr, this, if_true]
    · show f_X6_firstNonZero_B2 _ _ _ _ _ = _
      unfold f_X6_firstNonZero_B2
      simp (disch := omega) only [c_bnd, c_chk, c_lb0, c_lb1, c_lb2, c_lb3, L0, L1, L2, L10007, nI_add, pk_mul, ile_t, ile_f, ilt_t, ilt_f, ieq_t, ieq_f, c_rmI, setF_at, setF_ne, setF_setF, true_and, up1_at, up1_ne, pk_sub, pk_cpy_in, pk_cpy_out, Nat.zero_add, Nat.add_zero, Nat.zero_mul, Nat.sub_zero, Nat.add_sub_cancel_left]
  · rw [if_neg e]
    rw [loop_for (fun k => (nI k, cS N R J)) (.inr (nI i, cS N R J)) i rfl (by unfold FUEL; omega) ?_ ?_]
    · rfl
    · intro k hk
      have := n1 k (by omega)
      show f_X6_firstNonZero_B2 _ _ _ _ _ = _
      unfold f_X6_firstNonZero_B2
      simp (disch := omega) only [c_bnd, c_chk, c_lb0, c_lb1, c_lb2, c_lb3, L0, L1, L2, L10007, nI_add, pk_mul, ile_t, ile_f, ilt_t, ilt_f, ieq_t, ieq_f, c_rmI, setF_at, setF_ne, setF_setF, true_and, up1_at, up1_ne, pk_sub, pk_cpy_in, pk_cpy_out, Nat.zero_add, Nat.add_zero, Nat.zero_mul, Nat.sub_zero, Nat.add_sub_cancel_left, c_ldI hr, this, if_true]
    · have h2 := n2 (by omega)
      have h3 := b1 i (by omega)
      show f_X6_firstNonZero_B2 _ _ _ _ _ = _
      unfold f_X6_firstNonZero_B2
      simp (disch := omega) only [c_bnd, c_chk, c_lb0, c_lb1, c_lb2, c_lb3, L0, L1, L2, L10007, nI_add, pk_mul, ile_t, ile_f, ilt_t, ilt_f, ieq_t, ieq_f, c_rmI, setF_at, setF_ne, setF_setF, true_and, up1_at, up1_ne, pk_sub, pk_cpy_in, pk_cpy_out, Nat.zero_add, Nat.add_zero, Nat.zero_mul, Nat.sub_zero, Nat.add_sub_cancel_left, c_ldI hr]
theorem s_bplace (h : bS Γ R b) (k : auS Γ R a cap) (d : a + 6 ≤ b ∨ b + 131 ≤ a) (hA : cAu N a A) (hc : A.1 ≤ cap) (ok : okA A) (hI : bI A.1 B) (hB : cBs N b A.1 B) (hW : cWt N b A B) (hv : ∀ j, j < A.1 → N (b + 128) j = v j) (hv2 : ∀ j, j < A.1 → v j < 10007) {word : Nat} : Mx (f_X1_place Γ b a (nI word) (cS N R J)) (fun σ => ((), σ)) R J (fun N' => frA N N' b (b + 131) ∧ (∀ x, b + 79 ≤ x → x < b + 129 → N' x = N x) ∧ cBs N' b A.1 (plc A.1 B v word) ∧ cWt N' b A (plc A.1 B v word) ∧ ∀ j, j < A.1 → N' (b + 130) j = cod A.1 B v j) := by
  have hc24 := k.c24
  have ha := k.a0
  have hb := h.1.2
  have e0 := hA.1
  have hle := bI_le hI
  unfold f_X1_place
  simp (disch := omega) only [c_bnd, c_chk, c_lb0, c_lb1, c_lb2, c_lb3, L0, L1, L2, L10007, nI_add, pk_mul, ile_t, ile_f, ilt_t, ilt_f, ieq_t, ieq_f, c_rmI, setF_at, setF_ne, setF_setF, true_and, up1_at, up1_ne, pk_sub, pk_cpy_in, pk_cpy_out, Nat.zero_add, Nat.add_zero, Nat.zero_mul, Nat.sub_zero, Nat.add_sub_cancel_left, c_gfI k.ob, c_pfI k.ob, c_gfR k.ob k.r1, c_gfR k.ob k.r2, c_gfR k.ob k.r3, c_ldI k.g1, c_ldI k.g2, c_stI k.g1, c_stI k.g2, c_chkO k.ob, c_gfI h.ob, c_pfI h.ob, c_chkO h.ob, L24, c_gfR h.ob h.rwords, c_gfR h.ob h.rweights, c_gfR h.ob h.rvectors, c_gfR h.ob h.rechelon, c_gfR h.ob h.rparts, c_gfR h.ob h.rpivots, c_gfR h.ob h.rimages, c_gfR h.ob h.rtrial, c_gfR h.ob h.rrest, c_gfR h.ob h.rcoords, c_ldI h.gwords, c_stI h.gwords, c_ldI h.gweights, c_stI h.gweights, c_ldI h.gpivots, c_stI h.gpivots, c_ldI h.gtrial, c_stI h.gtrial, c_ldI h.grest, c_stI h.grest, c_ldI h.gcoords, c_stI h.gcoords, e0, c_cpI h.gtrial h.grest, s_fill h.gcoords]
  generalize hN1 : setF (setF N (b + 129) _) (b + 130) _ = N1
  have q1 : ∀ x, x ≠ b + 129 → x ≠ b + 130 → N1 x = N x := by
    intro x e1 e2
    subst hN1
    simp (disch := omega) only [c_bnd, c_chk, c_lb0, c_lb1, c_lb2, c_lb3, L0, L1, L2, L10007, nI_add, pk_mul, ile_t, ile_f, ilt_t, ilt_f, ieq_t, ieq_f, c_rmI, setF_at, setF_ne, setF_setF, true_and, up1_at, up1_ne, pk_sub, pk_cpy_in, pk_cpy_out, Nat.zero_add, Nat.add_zero, Nat.zero_mul, Nat.sub_zero, Nat.add_sub_cancel_left]
  have q2 : ∀ j, j < A.1 → N1 (b + 129) j = v j ∧ N1 (b + 130) j = 0 := by
    intro j hj
    subst hN1
    simp (disch := omega) only [c_bnd, c_chk, c_lb0, c_lb1, c_lb2, c_lb3, L0, L1, L2, L10007, nI_add, pk_mul, ile_t, ile_f, ilt_t, ilt_f, ieq_t, ieq_f, c_rmI, setF_at, setF_ne, setF_setF, true_and, up1_at, up1_ne, pk_sub, pk_cpy_in, pk_cpy_out, Nat.zero_add, Nat.add_zero, Nat.zero_mul, Nat.sub_zero, Nat.add_sub_cancel_left, hv j hj, if_pos (And.intro (Nat.zero_le j) hj), and_self]
  clear hN1
  refine mx_lb0 (mx_for (fun c N' => (∀ x, x ≠ b + 129 → x ≠ b + 130 → N' x = N x) ∧ ∀ j, j < A.1 → N' (b + 129) j = (rd B v c).1 j ∧ N' (b + 130) j = (rd B v c).2 j) (s := 0) (e := B.1) (by omega) (by omega) ⟨q1, q2⟩ ?_ ?_) ?_
  · intro c N2 _ hcc ⟨r1, r2⟩
    have f0 : N2 b 0 = B.1 := by rw [r1 b (by omega) (by omega)]; exact hB.1
    have hk := hB.2 c hcc
    have f1 : N2 (b + 78) c = B.2.2.1 c := by rw [r1 _ (by omega) (by omega)]; exact hk.2.1
    have hp := (hI.1 c hcc).1
    obtain ⟨f2, f3⟩ := r2 _ hp
    have hl := rd_lt hI hv2 c (by omega)
    have hl1 := hl.1 _ hp
    have gv := h.2.2.1 c (by omega)
    show Mx (f_X1_place_B32 _ _ _ _ _ _ _) _ _ _ _
    unfold f_X1_place_B32
    by_cases e : (rd B v c).1 (B.2.2.1 c) = 0
    · have : rd B v (c + 1) = rd B v c := by rw [rd, if_pos e]
      simp (disch := omega) only [c_bnd, c_chk, c_lb0, c_lb1, c_lb2, c_lb3, L0, L1, L2, L10007, nI_add, pk_mul, ile_t, ile_f, ilt_t, ilt_f, ieq_t, ieq_f, c_rmI, setF_at, setF_ne, setF_setF, true_and, up1_at, up1_ne, pk_sub, pk_cpy_in, pk_cpy_out, Nat.zero_add, Nat.add_zero, Nat.zero_mul, Nat.sub_zero, Nat.add_sub_cancel_left, c_gfI k.ob, c_pfI k.ob, c_gfR k.ob k.r1, c_gfR k.ob k.r2, c_gfR k.ob k.r3, c_ldI k.g1, c_ldI k.g2, c_stI k.g1, c_stI k.g2, c_chkO k.ob, c_gfI h.ob, c_pfI h.ob, c_chkO h.ob, L24, c_gfR h.ob h.rwords, c_gfR h.ob h.rweights, c_gfR h.ob h.rvectors, c_gfR h.ob h.rechelon, c_gfR h.ob h.rparts, c_gfR h.ob h.rpivots, c_gfR h.ob h.rimages, c_gfR h.ob h.rtrial, c_gfR h.ob h.rrest, c_gfR h.ob h.rcoords, c_ldI h.gwords, c_stI h.gwords, c_ldI h.gweights, c_stI h.gweights, c_ldI h.gpivots, c_stI h.gpivots, c_ldI h.gtrial, c_stI h.gtrial, c_ldI h.grest, c_stI h.grest, c_ldI h.gcoords, c_stI h.gcoords, f0, f1, f2, e]
      unfold f_X1_place_B32_L98
      simp (disch := omega) only [c_bnd, c_chk, c_lb0, c_lb1, c_lb2, c_lb3, L0, L1, L2, L10007, nI_add, pk_mul, ile_t, ile_f, ilt_t, ilt_f, ieq_t, ieq_f, c_rmI, setF_at, setF_ne, setF_setF, true_and, up1_at, up1_ne, pk_sub, pk_cpy_in, pk_cpy_out, Nat.zero_add, Nat.add_zero, Nat.zero_mul, Nat.sub_zero, Nat.add_sub_cancel_left]
      refine mx_eq rfl ⟨r1, ?_⟩
      rw [this]
      exact r2
    · have hn : rd B v (c + 1) = (fun j => ((rd B v c).1 j + (10007 - (rd B v c).1 (B.2.2.1 c)) * B.2.2.2.2.1 c j) % 10007, fun j => ((rd B v c).2 j + (rd B v c).1 (B.2.2.1 c) * B.2.2.2.2.2 c j) % 10007) := by rw [rd, if_neg e]
      have g1 : ∀ j, j < A.1 → N2 (b + 29 + c) j = B.2.2.2.2.1 c j := fun j hj => by rw [r1 _ (by omega) (by omega)]; exact (hk.2.2 j hj).2.1
      have g2 : ∀ j, j < A.1 → N2 (b + 54 + c) j = B.2.2.2.2.2 c j := fun j hj => by rw [r1 _ (by omega) (by omega)]; exact (hk.2.2 j hj).2.2
      simp (disch := omega) only [c_bnd, c_chk, c_lb0, c_lb1, c_lb2, c_lb3, L0, L1, L2, L10007, nI_add, pk_mul, ile_t, ile_f, ilt_t, ilt_f, ieq_t, ieq_f, c_rmI, setF_at, setF_ne, setF_setF, true_and, up1_at, up1_ne, pk_sub, pk_cpy_in, pk_cpy_out, Nat.zero_add, Nat.add_zero, Nat.zero_mul, Nat.sub_zero, Nat.add_sub_cancel_left, c_gfI k.ob, c_pfI k.ob, c_gfR k.ob k.r1, c_gfR k.ob k.r2, c_gfR k.ob k.r3, c_ldI k.g1, c_ldI k.g2, c_stI k.g1, c_stI k.g2, c_chkO k.ob, c_gfI h.ob, c_pfI h.ob, c_chkO h.ob, L24, c_gfR h.ob h.rwords, c_gfR h.ob h.rweights, c_gfR h.ob h.rvectors, c_gfR h.ob h.rechelon, c_gfR h.ob h.rparts, c_gfR h.ob h.rpivots, c_gfR h.ob h.rimages, c_gfR h.ob h.rtrial, c_gfR h.ob h.rrest, c_gfR h.ob h.rcoords, c_ldI h.gwords, c_stI h.gwords, c_ldI h.gweights, c_stI h.gweights, c_ldI h.gpivots, c_stI h.gpivots, c_ldI h.gtrial, c_stI h.gtrial, c_ldI h.grest, c_stI h.grest, c_ldI h.gcoords, c_stI h.gcoords, f0, f1, f2, c_ldG h.gechelon gv.2.1.2, c_ldG h.gparts gv.2.2.2]
      rw [s_addMul h.grest gv.2.1.1 (by omega) (by omega) (by omega) (by omega) (by omega) (by omega) (fun j hj => by rw [(r2 j hj).1]; exact hl.1 j hj) (fun j hj => by rw [g1 j hj]; exact (hI.2.2 c j hcc).1)]
      simp (disch := omega) only [c_bnd, c_chk, c_lb0, c_lb1, c_lb2, c_lb3, L0, L1, L2, L10007, nI_add, pk_mul, ile_t, ile_f, ilt_t, ilt_f, ieq_t, ieq_f, c_rmI, setF_at, setF_ne, setF_setF, true_and, up1_at, up1_ne, pk_sub, pk_cpy_in, pk_cpy_out, Nat.zero_add, Nat.add_zero, Nat.zero_mul, Nat.sub_zero, Nat.add_sub_cancel_left, c_gfI k.ob, c_pfI k.ob, c_gfR k.ob k.r1, c_gfR k.ob k.r2, c_gfR k.ob k.r3, c_ldI k.g1, c_ldI k.g2, c_stI k.g1, c_stI k.g2, c_chkO k.ob, c_gfI h.ob, c_pfI h.ob, c_chkO h.ob, L24, c_gfR h.ob h.rwords, c_gfR h.ob h.rweights, c_gfR h.ob h.rvectors, c_gfR h.ob h.rechelon, c_gfR h.ob h.rparts, c_gfR h.ob h.rpivots, c_gfR h.ob h.rimages, c_gfR h.ob h.rtrial, c_gfR h.ob h.rrest, c_gfR h.ob h.rcoords, c_ldI h.gwords, c_stI h.gwords, c_ldI h.gweights, c_stI h.gweights, c_ldI h.gpivots, c_stI h.gpivots, c_ldI h.gtrial, c_stI h.gtrial, c_ldI h.grest, c_stI h.grest, c_ldI h.gcoords, c_stI h.gcoords, c_ldG h.gparts gv.2.2.2]
      rw [s_addMul h.gcoords gv.2.2.1 (by omega) (by omega) (by omega) (by omega) (by omega) (by omega) (fun j hj => by rw [setF_ne (by omega), (r2 j hj).2]; exact (hl.2 j).1) (fun j hj => by rw [setF_ne (by omega), g2 j hj]; exact (hI.2.2 c j hcc).2.1)]
      simp (disch := omega) only [c_bnd, c_chk, c_lb0, c_lb1, c_lb2, c_lb3, L0, L1, L2, L10007, nI_add, pk_mul, ile_t, ile_f, ilt_t, ilt_f, ieq_t, ieq_f, c_rmI, setF_at, setF_ne, setF_setF, true_and, up1_at, up1_ne, pk_sub, pk_cpy_in, pk_cpy_out, Nat.zero_add, Nat.add_zero, Nat.zero_mul, Nat.sub_zero, Nat.add_sub_cancel_left]
      unfold f_X1_place_B32_L98
      simp (disch := omega) only [c_bnd, c_chk, c_lb0, c_lb1, c_lb2, c_lb3, L0, L1, L2, L10007, nI_add, pk_mul, ile_t, ile_f, ilt_t, ilt_f, ieq_t, ieq_f, c_rmI, setF_at, setF_ne, setF_setF, true_and, up1_at, up1_ne, pk_sub, pk_cpy_in, pk_cpy_out, Nat.zero_add, Nat.add_zero, Nat.zero_mul, Nat.sub_zero, Nat.add_sub_cancel_left]
      refine mx_eq rfl ⟨fun x e1 e2 => ?_, fun j hj => ?_⟩
      · simp (disch := omega) only [c_bnd, c_chk, c_lb0, c_lb1, c_lb2, c_lb3, L0, L1, L2, L10007, nI_add, pk_mul, ile_t, ile_f, ilt_t, ilt_f, ieq_t, ieq_f, c_rmI, setF_at, setF_ne, setF_setF, true_and, up1_at, up1_ne, pk_sub, pk_cpy_in, pk_cpy_out, Nat.zero_add, Nat.add_zero, Nat.zero_mul, Nat.sub_zero, Nat.add_sub_cancel_left]
        exact r1 x e1 e2
      · simp (disch := omega) only [c_bnd, c_chk, c_lb0, c_lb1, c_lb2, c_lb3, L0, L1, L2, L10007, nI_add, pk_mul, ile_t, ile_f, ilt_t, ilt_f, ieq_t, ieq_f, c_rmI, setF_at, setF_ne, setF_setF, true_and, up1_at, up1_ne, pk_sub, pk_cpy_in, pk_cpy_out, Nat.zero_add, Nat.add_zero, Nat.zero_mul, Nat.sub_zero, Nat.add_sub_cancel_left, if_pos hj]
        rw [hn, (r2 j hj).1, (r2 j hj).2, g1 j hj, g2 j hj]
        exact ⟨rfl, rfl⟩
  · intro N2 ⟨r1, r2⟩
    have f0 : N2 b 0 = B.1 := by rw [r1 b (by omega) (by omega)]; exact hB.1
    show f_X1_place_B32 _ _ _ _ _ _ _ = _
    unfold f_X1_place_B32
    simp (disch := omega) only [c_bnd, c_chk, c_lb0, c_lb1, c_lb2, c_lb3, L0, L1, L2, L10007, nI_add, pk_mul, ile_t, ile_f, ilt_t, ilt_f, ieq_t, ieq_f, c_rmI, setF_at, setF_ne, setF_setF, true_and, up1_at, up1_ne, pk_sub, pk_cpy_in, pk_cpy_out, Nat.zero_add, Nat.add_zero, Nat.zero_mul, Nat.sub_zero, Nat.add_sub_cancel_left, c_gfI h.ob, c_pfI h.ob, c_chkO h.ob, L24, c_gfR h.ob h.rwords, c_gfR h.ob h.rweights, c_gfR h.ob h.rvectors, c_gfR h.ob h.rechelon, c_gfR h.ob h.rparts, c_gfR h.ob h.rpivots, c_gfR h.ob h.rimages, c_gfR h.ob h.rtrial, c_gfR h.ob h.rrest, c_gfR h.ob h.rcoords, c_ldI h.gwords, c_stI h.gwords, c_ldI h.gweights, c_stI h.gweights, c_ldI h.gpivots, c_stI h.gpivots, c_ldI h.gtrial, c_stI h.gtrial, c_ldI h.grest, c_stI h.grest, c_ldI h.gcoords, c_stI h.gcoords, f0]
  intro N2 ⟨r1, r2⟩
  have hl := rd_lt hI hv2 B.1 (Nat.le_refl _)
  have f0 : N2 b 0 = B.1 := by rw [r1 b (by omega) (by omega)]; exact hB.1
  have n3 := fnz_le (f := (rd B v B.1).1) A.1
  obtain ⟨n1, n2⟩ := fnz_spec (f := (rd B v B.1).1) A.1
  simp (disch := omega) only [c_bnd, c_chk, c_lb0, c_lb1, c_lb2, c_lb3, L0, L1, L2, L10007, nI_add, pk_mul, ile_t, ile_f, ilt_t, ilt_f, ieq_t, ieq_f, c_rmI, setF_at, setF_ne, setF_setF, true_and, up1_at, up1_ne, pk_sub, pk_cpy_in, pk_cpy_out, Nat.zero_add, Nat.add_zero, Nat.zero_mul, Nat.sub_zero, Nat.add_sub_cancel_left, c_gfI h.ob, c_pfI h.ob, c_chkO h.ob, L24, c_gfR h.ob h.rwords, c_gfR h.ob h.rweights, c_gfR h.ob h.rvectors, c_gfR h.ob h.rechelon, c_gfR h.ob h.rparts, c_gfR h.ob h.rpivots, c_gfR h.ob h.rimages, c_gfR h.ob h.rtrial, c_gfR h.ob h.rrest, c_gfR h.ob h.rcoords, c_ldI h.gwords, c_stI h.gwords, c_ldI h.gweights, c_stI h.gweights, c_ldI h.gpivots, c_stI h.gpivots, c_ldI h.gtrial, c_stI h.gtrial, c_ldI h.grest, c_stI h.grest, c_ldI h.gcoords, c_stI h.gcoords]
  rw [s_fnz h.grest (by omega) (by omega) (fun j hj => by rw [(r2 j hj).1]; exact hl.1 j hj), fnz_congr A.1 (fun j hj => (r2 j hj).1), c_bnd]
  have hfr : frA N N2 b (b + 131) := fun x e => r1 x (by omega) (by omega)
  have hB2 : cBs N2 b A.1 B := hB.of (by omega) (fun x e1 e2 => r1 x (by omega) (by omega))
  by_cases e : fnz (rd B v B.1).1 A.1 = A.1
  · have p1 : plc A.1 B v word = B := by unfold plc; rw [if_pos e]
    have p2 : cod A.1 B v = (rd B v B.1).2 := by unfold cod; rw [if_pos e]
    rw [if_pos e, if_pos (show (-1 : Int32) = -nI 1 from rfl), p1, p2]
    unfold f_X1_place_L182
    exact mx_eq rfl ⟨hfr, fun x e1 e2 => r1 x (by omega) (by omega), hB2, fun i hi => by rw [r1 _ (by omega) (by omega)]; exact hW i hi, fun j hj => (r2 j hj).2⟩
  · have p1 : plc A.1 B v word = (B.1 + 1, up B.2.1 B.1 word, up B.2.2.1 B.1 (fnz (rd B v B.1).1 A.1), up B.2.2.2.1 B.1 v, up B.2.2.2.2.1 B.1 (fun j => (rd B v B.1).1 j * rcp ((rd B v B.1).1 (fnz (rd B v B.1).1 A.1)) % 10007), up B.2.2.2.2.2 B.1 (fun j => if j = B.1 then rcp ((rd B v B.1).1 (fnz (rd B v B.1).1 A.1)) else (rd B v B.1).2 j * (10007 - rcp ((rd B v B.1).1 (fnz (rd B v B.1).1 A.1))) % 10007)) := by unfold plc; rw [if_neg e]
    have p2 : cod A.1 B v = fun j => if j = B.1 then 1 else 0 := by unfold cod; rw [if_neg e]
    have hc1 : B.1 < A.1 := by
      have := bI_le (plc_I hI hv2 (word := word))
      rw [p1] at this
      exact this
    rw [if_neg e, p1, p2]
    generalize hi : fnz (rd B v B.1).1 A.1 = i at *
    have hi2 : i < A.1 := by omega
    have g1 := (r2 i hi2).1
    have g2 : ∀ j, j < A.1 → N2 (b + 128) j = v j := fun j hj => by rw [r1 _ (by omega) (by omega)]; exact hv j hj
    have hx2 := hl.1 i hi2
    have hnm : ¬ nI i = -nI 1 := fun q => by
      have h0 : ¬ nI i < (0 : Int32) := nI_pos (by omega)
      rw [q] at h0
      exact h0 (by decide)
    have gv := h.2.2.1 B.1 (by omega)
    rw [if_neg hnm]
    have hA2 : cAu (setF N2 (b + 1) (up1 (N2 (b + 1)) B.1 word)) a A := (hA.fr hfr d).fr (frA.set (Nat.le_refl (b + 1)) (Nat.lt_succ_self _)) (by omega)
    simp (disch := omega) only [c_bnd, c_chk, c_lb0, c_lb1, c_lb2, c_lb3, L0, L1, L2, L10007, nI_add, pk_mul, ile_t, ile_f, ilt_t, ilt_f, ieq_t, ieq_f, c_rmI, setF_at, setF_ne, setF_setF, true_and, up1_at, up1_ne, pk_sub, pk_cpy_in, pk_cpy_out, Nat.zero_add, Nat.add_zero, Nat.zero_mul, Nat.sub_zero, Nat.add_sub_cancel_left, c_gfI k.ob, c_pfI k.ob, c_gfR k.ob k.r1, c_gfR k.ob k.r2, c_gfR k.ob k.r3, c_ldI k.g1, c_ldI k.g2, c_stI k.g1, c_stI k.g2, c_chkO k.ob, c_gfI h.ob, c_pfI h.ob, c_chkO h.ob, L24, c_gfR h.ob h.rwords, c_gfR h.ob h.rweights, c_gfR h.ob h.rvectors, c_gfR h.ob h.rechelon, c_gfR h.ob h.rparts, c_gfR h.ob h.rpivots, c_gfR h.ob h.rimages, c_gfR h.ob h.rtrial, c_gfR h.ob h.rrest, c_gfR h.ob h.rcoords, c_ldI h.gwords, c_stI h.gwords, c_ldI h.gweights, c_stI h.gweights, c_ldI h.gpivots, c_stI h.gpivots, c_ldI h.gtrial, c_stI h.gtrial, c_ldI h.grest, c_stI h.grest, c_ldI h.gcoords, c_stI h.gcoords, f0]
    rw [s_wt k hA2 hc ok h.gtrial (by omega) (by omega) (fun j hj => by rw [setF_ne (by omega), g2 j hj]; exact hv2 j hj)]
    rw [wtA_congr (v := setF N2 (b + 1) (up1 (N2 (b + 1)) B.1 word) (b + 128)) (w := v) (fun j hj => by rw [setF_ne (by omega)]; exact g2 j hj)]
    simp (disch := omega) only [c_bnd, c_chk, c_lb0, c_lb1, c_lb2, c_lb3, L0, L1, L2, L10007, nI_add, pk_mul, ile_t, ile_f, ilt_t, ilt_f, ieq_t, ieq_f, c_rmI, setF_at, setF_ne, setF_setF, true_and, up1_at, up1_ne, pk_sub, pk_cpy_in, pk_cpy_out, Nat.zero_add, Nat.add_zero, Nat.zero_mul, Nat.sub_zero, Nat.add_sub_cancel_left, c_gfI k.ob, c_pfI k.ob, c_gfR k.ob k.r1, c_gfR k.ob k.r2, c_gfR k.ob k.r3, c_ldI k.g1, c_ldI k.g2, c_stI k.g1, c_stI k.g2, c_chkO k.ob, c_gfI h.ob, c_pfI h.ob, c_chkO h.ob, L24, c_gfR h.ob h.rwords, c_gfR h.ob h.rweights, c_gfR h.ob h.rvectors, c_gfR h.ob h.rechelon, c_gfR h.ob h.rparts, c_gfR h.ob h.rpivots, c_gfR h.ob h.rimages, c_gfR h.ob h.rtrial, c_gfR h.ob h.rrest, c_gfR h.ob h.rcoords, c_ldI h.gwords, c_stI h.gwords, c_ldI h.gweights, c_stI h.gweights, c_ldI h.gpivots, c_stI h.gpivots, c_ldI h.gtrial, c_stI h.gtrial, c_ldI h.grest, c_stI h.grest, c_ldI h.gcoords, c_stI h.gcoords, f0, g1, s_rcp hx2]
    generalize hs : rcp ((rd B v B.1).1 i) = s at *
    have hs2 : s < 10007 := by rw [← hs]; exact rcp_lt
    generalize hN3 : setF (setF (setF N2 (b + 1) _) (b + 2) _) (b + 78) _ = N3
    have t1 : ∀ x, x ≠ b + 1 → x ≠ b + 2 → x ≠ b + 78 → N3 x = N2 x := by
      intro x _ _ _
      subst hN3
      simp (disch := omega) only [c_bnd, c_chk, c_lb0, c_lb1, c_lb2, c_lb3, L0, L1, L2, L10007, nI_add, pk_mul, ile_t, ile_f, ilt_t, ilt_f, ieq_t, ieq_f, c_rmI, setF_at, setF_ne, setF_setF, true_and, up1_at, up1_ne, pk_sub, pk_cpy_in, pk_cpy_out, Nat.zero_add, Nat.add_zero, Nat.zero_mul, Nat.sub_zero, Nat.add_sub_cancel_left]
    have t2 : N3 (b + 1) = up1 (N2 (b + 1)) B.1 word ∧ N3 (b + 2) = up1 (N2 (b + 2)) B.1 (wtA A v) ∧ N3 (b + 78) = up1 (N2 (b + 78)) B.1 i := by
      subst hN3
      simp (disch := omega) only [c_bnd, c_chk, c_lb0, c_lb1, c_lb2, c_lb3, L0, L1, L2, L10007, nI_add, pk_mul, ile_t, ile_f, ilt_t, ilt_f, ieq_t, ieq_f, c_rmI, setF_at, setF_ne, setF_setF, true_and, up1_at, up1_ne, pk_sub, pk_cpy_in, pk_cpy_out, Nat.zero_add, Nat.add_zero, Nat.zero_mul, Nat.sub_zero, Nat.add_sub_cancel_left, and_self]
    clear hN3 hA2
    have f0' : N3 b 0 = B.1 := by rw [t1 b (by omega) (by omega) (by omega)]; exact f0
    unfold f_X1_extend
    simp (disch := omega) only [c_bnd, c_chk, c_lb0, c_lb1, c_lb2, c_lb3, L0, L1, L2, L10007, nI_add, pk_mul, ile_t, ile_f, ilt_t, ilt_f, ieq_t, ieq_f, c_rmI, setF_at, setF_ne, setF_setF, true_and, up1_at, up1_ne, pk_sub, pk_cpy_in, pk_cpy_out, Nat.zero_add, Nat.add_zero, Nat.zero_mul, Nat.sub_zero, Nat.add_sub_cancel_left, c_gfI h.ob, c_pfI h.ob, c_chkO h.ob, L24, c_gfR h.ob h.rwords, c_gfR h.ob h.rweights, c_gfR h.ob h.rvectors, c_gfR h.ob h.rechelon, c_gfR h.ob h.rparts, c_gfR h.ob h.rpivots, c_gfR h.ob h.rimages, c_gfR h.ob h.rtrial, c_gfR h.ob h.rrest, c_gfR h.ob h.rcoords, c_ldI h.gwords, c_stI h.gwords, c_ldI h.gweights, c_stI h.gweights, c_ldI h.gpivots, c_stI h.gpivots, c_ldI h.gtrial, c_stI h.gtrial, c_ldI h.grest, c_stI h.grest, c_ldI h.gcoords, c_stI h.gcoords, f0']
    refine mx_bnd (x := ()) (P := fun N' => (∀ x, x ≠ b → x ≠ b + 4 + B.1 → x ≠ b + 29 + B.1 → x ≠ b + 54 + B.1 → x ≠ b + 130 → N' x = N3 x) ∧ N' b 0 = B.1 + 1 ∧ ∀ j, j < A.1 → N' (b + 4 + B.1) j = v j ∧ N' (b + 29 + B.1) j = (rd B v B.1).1 j * s % 10007 ∧ N' (b + 54 + B.1) j = (if j = B.1 then s else (rd B v B.1).2 j * (10007 - s) % 10007) ∧ N' (b + 130) j = if j = B.1 then 1 else 0) (mx_lb0 (mx_for (fun c N' => (∀ x, x ≠ b + 4 + B.1 → x ≠ b + 29 + B.1 → x ≠ b + 54 + B.1 → x ≠ b + 130 → N' x = N3 x) ∧ (∀ j, j < A.1 → c ≤ j → N' (b + 130) j = (rd B v B.1).2 j) ∧ ∀ j, j < c → N' (b + 4 + B.1) j = v j ∧ N' (b + 29 + B.1) j = (rd B v B.1).1 j * s % 10007 ∧ N' (b + 54 + B.1) j = (rd B v B.1).2 j * (10007 - s) % 10007 ∧ N' (b + 130) j = 0) (s := 0) (e := A.1) (by omega) (by omega) ⟨fun x _ _ _ _ => rfl, fun j hj _ => by rw [t1 _ (by omega) (by omega) (by omega)]; exact (r2 j hj).2, fun j hj => absurd hj (by omega)⟩ ?_ ?_) ?_) ?_
    · intro c N4 _ hcc ⟨u1, u2, u3⟩
      have w1 : N4 (b + 128) c = v c := by rw [u1 _ (by omega) (by omega) (by omega) (by omega), t1 _ (by omega) (by omega) (by omega)]; exact g2 c hcc
      have w2 : N4 (b + 129) c = (rd B v B.1).1 c := by rw [u1 _ (by omega) (by omega) (by omega) (by omega), t1 _ (by omega) (by omega) (by omega)]; exact (r2 c hcc).1
      have w3 := u2 c hcc (Nat.le_refl c)
      have w4 := pmul (hl.1 c hcc) hs2
      have w5 : (rd B v B.1).2 c * (10007 - s) ≤ 10006 * 10007 := Nat.mul_le_mul (Nat.le_of_lt_succ (hl.2 c).1) (Nat.sub_le _ _)
      show Mx (f_X1_extend_B8 _ _ _ _ _ _ _) _ _ _ _
      unfold f_X1_extend_B8
      simp (disch := omega) only [c_bnd, c_chk, c_lb0, c_lb1, c_lb2, c_lb3, L0, L1, L2, L10007, nI_add, pk_mul, ile_t, ile_f, ilt_t, ilt_f, ieq_t, ieq_f, c_rmI, setF_at, setF_ne, setF_setF, true_and, up1_at, up1_ne, pk_sub, pk_cpy_in, pk_cpy_out, Nat.zero_add, Nat.add_zero, Nat.zero_mul, Nat.sub_zero, Nat.add_sub_cancel_left, c_gfI h.ob, c_pfI h.ob, c_chkO h.ob, L24, c_gfR h.ob h.rwords, c_gfR h.ob h.rweights, c_gfR h.ob h.rvectors, c_gfR h.ob h.rechelon, c_gfR h.ob h.rparts, c_gfR h.ob h.rpivots, c_gfR h.ob h.rimages, c_gfR h.ob h.rtrial, c_gfR h.ob h.rrest, c_gfR h.ob h.rcoords, c_ldI h.gwords, c_stI h.gwords, c_ldI h.gweights, c_stI h.gweights, c_ldI h.gpivots, c_stI h.gpivots, c_ldI h.gtrial, c_stI h.gtrial, c_ldI h.grest, c_stI h.grest, c_ldI h.gcoords, c_stI h.gcoords, c_ldG h.gvectors gv.1.2, c_ldG h.gechelon gv.2.1.2, c_ldG h.gparts gv.2.2.2, c_stI gv.1.1, c_stI gv.2.1.1, c_stI gv.2.2.1, w1, w2, w3]
      refine mx_eq rfl ⟨fun x _ _ _ _ => ?_, fun j hj hj2 => ?_, fun j hj => ?_⟩
      · simp (disch := omega) only [c_bnd, c_chk, c_lb0, c_lb1, c_lb2, c_lb3, L0, L1, L2, L10007, nI_add, pk_mul, ile_t, ile_f, ilt_t, ilt_f, ieq_t, ieq_f, c_rmI, setF_at, setF_ne, setF_setF, true_and, up1_at, up1_ne, pk_sub, pk_cpy_in, pk_cpy_out, Nat.zero_add, Nat.add_zero, Nat.zero_mul, Nat.sub_zero, Nat.add_sub_cancel_left]
        exact u1 x (by omega) (by omega) (by omega) (by omega)
      · simp (disch := omega) only [c_bnd, c_chk, c_lb0, c_lb1, c_lb2, c_lb3, L0, L1, L2, L10007, nI_add, pk_mul, ile_t, ile_f, ilt_t, ilt_f, ieq_t, ieq_f, c_rmI, setF_at, setF_ne, setF_setF, true_and, up1_at, up1_ne, pk_sub, pk_cpy_in, pk_cpy_out, Nat.zero_add, Nat.add_zero, Nat.zero_mul, Nat.sub_zero, Nat.add_sub_cancel_left]
        exact u2 j hj (by omega)
      · by_cases e3 : j = c
        · subst e3
          simp (disch := omega) only [c_bnd, c_chk, c_lb0, c_lb1, c_lb2, c_lb3, L0, L1, L2, L10007, nI_add, pk_mul, ile_t, ile_f, ilt_t, ilt_f, ieq_t, ieq_f, c_rmI, setF_at, setF_ne, setF_setF, true_and, up1_at, up1_ne, pk_sub, pk_cpy_in, pk_cpy_out, Nat.zero_add, Nat.add_zero, Nat.zero_mul, Nat.sub_zero, Nat.add_sub_cancel_left, and_self]
        · simp (disch := omega) only [c_bnd, c_chk, c_lb0, c_lb1, c_lb2, c_lb3, L0, L1, L2, L10007, nI_add, pk_mul, ile_t, ile_f, ilt_t, ilt_f, ieq_t, ieq_f, c_rmI, setF_at, setF_ne, setF_setF, true_and, up1_at, up1_ne, pk_sub, pk_cpy_in, pk_cpy_out, Nat.zero_add, Nat.add_zero, Nat.zero_mul, Nat.sub_zero, Nat.add_sub_cancel_left]
          exact u3 j (by omega)
    · intro N4 _
      show f_X1_extend_B8 _ _ _ _ _ _ _ = _
      unfold f_X1_extend_B8
      simp (disch := omega) only [c_bnd, c_chk, c_lb0, c_lb1, c_lb2, c_lb3, L0, L1, L2, L10007, nI_add, pk_mul, ile_t, ile_f, ilt_t, ilt_f, ieq_t, ieq_f, c_rmI, setF_at, setF_ne, setF_setF, true_and, up1_at, up1_ne, pk_sub, pk_cpy_in, pk_cpy_out, Nat.zero_add, Nat.add_zero, Nat.zero_mul, Nat.sub_zero, Nat.add_sub_cancel_left]
    · intro N4 ⟨u1, u2, u3⟩
      have w0 : N4 b 0 = B.1 := by rw [u1 _ (by omega) (by omega) (by omega) (by omega)]; exact f0'
      simp (disch := omega) only [c_bnd, c_chk, c_lb0, c_lb1, c_lb2, c_lb3, L0, L1, L2, L10007, nI_add, pk_mul, ile_t, ile_f, ilt_t, ilt_f, ieq_t, ieq_f, c_rmI, setF_at, setF_ne, setF_setF, true_and, up1_at, up1_ne, pk_sub, pk_cpy_in, pk_cpy_out, Nat.zero_add, Nat.add_zero, Nat.zero_mul, Nat.sub_zero, Nat.add_sub_cancel_left, c_gfI h.ob, c_pfI h.ob, c_chkO h.ob, L24, c_gfR h.ob h.rwords, c_gfR h.ob h.rweights, c_gfR h.ob h.rvectors, c_gfR h.ob h.rechelon, c_gfR h.ob h.rparts, c_gfR h.ob h.rpivots, c_gfR h.ob h.rimages, c_gfR h.ob h.rtrial, c_gfR h.ob h.rrest, c_gfR h.ob h.rcoords, c_ldI h.gwords, c_stI h.gwords, c_ldI h.gweights, c_stI h.gweights, c_ldI h.gpivots, c_stI h.gpivots, c_ldI h.gtrial, c_stI h.gtrial, c_ldI h.grest, c_stI h.grest, c_ldI h.gcoords, c_stI h.gcoords, c_ldG h.gparts gv.2.2.2, c_stI gv.2.2.1, w0]
      refine mx_eq rfl ⟨fun x _ _ _ _ _ => ?_, ?_, fun j hj => ?_⟩
      · simp (disch := omega) only [c_bnd, c_chk, c_lb0, c_lb1, c_lb2, c_lb3, L0, L1, L2, L10007, nI_add, pk_mul, ile_t, ile_f, ilt_t, ilt_f, ieq_t, ieq_f, c_rmI, setF_at, setF_ne, setF_setF, true_and, up1_at, up1_ne, pk_sub, pk_cpy_in, pk_cpy_out, Nat.zero_add, Nat.add_zero, Nat.zero_mul, Nat.sub_zero, Nat.add_sub_cancel_left]
        exact u1 x (by omega) (by omega) (by omega) (by omega)
      · simp (disch := omega) only [c_bnd, c_chk, c_lb0, c_lb1, c_lb2, c_lb3, L0, L1, L2, L10007, nI_add, pk_mul, ile_t, ile_f, ilt_t, ilt_f, ieq_t, ieq_f, c_rmI, setF_at, setF_ne, setF_setF, true_and, up1_at, up1_ne, pk_sub, pk_cpy_in, pk_cpy_out, Nat.zero_add, Nat.add_zero, Nat.zero_mul, Nat.sub_zero, Nat.add_sub_cancel_left]
      · obtain ⟨v1, v2, v3, v4⟩ := u3 j hj
        by_cases e3 : j = B.1
        · subst e3
          simp (disch := omega) only [c_bnd, c_chk, c_lb0, c_lb1, c_lb2, c_lb3, L0, L1, L2, L10007, nI_add, pk_mul, ile_t, ile_f, ilt_t, ilt_f, ieq_t, ieq_f, c_rmI, setF_at, setF_ne, setF_setF, true_and, up1_at, up1_ne, pk_sub, pk_cpy_in, pk_cpy_out, Nat.zero_add, Nat.add_zero, Nat.zero_mul, Nat.sub_zero, Nat.add_sub_cancel_left, if_true, v1, v2, and_self]
        · simp (disch := omega) only [c_bnd, c_chk, c_lb0, c_lb1, c_lb2, c_lb3, L0, L1, L2, L10007, nI_add, pk_mul, ile_t, ile_f, ilt_t, ilt_f, ieq_t, ieq_f, c_rmI, setF_at, setF_ne, setF_setF, true_and, up1_at, up1_ne, pk_sub, pk_cpy_in, pk_cpy_out, Nat.zero_add, Nat.add_zero, Nat.zero_mul, Nat.sub_zero, Nat.add_sub_cancel_left, if_neg e3, v1, v2, v3, v4, and_self]
    · intro N4 ⟨u1, u0, u3⟩
      unfold f_X1_place_L182
      refine mx_eq rfl ⟨fun x e3 => ?_, fun x e1 e2 => ?_, ⟨u0, fun i2 hi2 => ?_⟩, fun i2 hi2 => ?_, fun j hj => (u3 j hj).2.2.2⟩
      · rw [u1 x (by omega) (by omega) (by omega) (by omega) (by omega), t1 x (by omega) (by omega) (by omega)]
        exact r1 x (by omega) (by omega)
      · rw [u1 x (by omega) (by omega) (by omega) (by omega) (by omega), t1 x (by omega) (by omega) (by omega)]
        exact r1 x (by omega) (by omega)
      · have hi2' : i2 < B.1 + 1 := hi2
        dsimp only
        rw [u1 (b + 1) (by omega) (by omega) (by omega) (by omega) (by omega), u1 (b + 78) (by omega) (by omega) (by omega) (by omega) (by omega), t2.1, t2.2.2]
        by_cases e3 : i2 = B.1
        · subst e3
          rw [up1_at, up1_at, up_at, up_at, up_at, up_at, up_at]
          exact ⟨rfl, rfl, fun j hj => ⟨(u3 j hj).1, (u3 j hj).2.1, (u3 j hj).2.2.1⟩⟩
        · rw [up1_ne e3, up1_ne e3, up_ne e3, up_ne e3, up_ne e3, up_ne e3, up_ne e3]
          obtain ⟨z1, z2, z3⟩ := hB2.2 i2 (by omega)
          refine ⟨z1, z2, fun j hj => ?_⟩
          rw [u1 (b + 4 + i2) (by omega) (by omega) (by omega) (by omega) (by omega), u1 (b + 29 + i2) (by omega) (by omega) (by omega) (by omega) (by omega), u1 (b + 54 + i2) (by omega) (by omega) (by omega) (by omega) (by omega), t1 (b + 4 + i2) (by omega) (by omega) (by omega), t1 (b + 29 + i2) (by omega) (by omega) (by omega), t1 (b + 54 + i2) (by omega) (by omega) (by omega)]
          exact z3 j hj
      · have hi2' : i2 < B.1 + 1 := hi2
        dsimp only
        rw [u1 (b + 2) (by omega) (by omega) (by omega) (by omega) (by omega), t2.2.1]
        by_cases e3 : i2 = B.1
        · subst e3
          rw [up1_at, up_at]
        · rw [up1_ne e3, up_ne e3, r1 _ (by omega) (by omega)]
          exact hW i2 (by omega)
end BC
