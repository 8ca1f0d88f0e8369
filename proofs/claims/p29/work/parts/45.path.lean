/-! ===== words in the model; the class's path ===== -/
theorem lg_ex : ∀ m c : Nat, 1 ≤ c → c < 2 ^ (m + 1) → ∃ L, L ≤ m ∧ 2 ^ L ≤ c ∧ c < 2 ^ (L + 1) := by
  intro m
  induction m with
  | zero => exact fun c h1 h2 => ⟨0, Nat.le_refl _, h1, h2⟩
  | succ m ih =>
    intro c h1 h2
    by_cases e : c < 2 ^ (m + 1)
    · obtain ⟨L, a, b⟩ := ih c h1 e
      exact ⟨L, by omega, b⟩
    · exact ⟨m + 1, Nat.le_refl _, by omega, h2⟩
theorem lg_div {c L k : Nat} (h1 : 2 ^ L ≤ c) (h2 : c < 2 ^ (L + 1)) (hk : k ≤ L) : 2 ^ k ≤ c / 2 ^ (L - k) ∧ c / 2 ^ (L - k) < 2 ^ (k + 1) := by
  have e1 : 2 ^ L = 2 ^ k * 2 ^ (L - k) := by rw [← Nat.pow_add]; congr 1; omega
  have e2 : 2 ^ (L + 1) = 2 ^ (k + 1) * 2 ^ (L - k) := by rw [← Nat.pow_add]; congr 1; omega
  have hp : 0 < 2 ^ (L - k) := Nat.two_pow_pos _
  constructor
  · rw [Nat.le_div_iff_mul_le hp, ← e1]; exact h1
  · rw [Nat.div_lt_iff_lt_mul hp, ← e2]; exact h2
theorem two_le {k m : Nat} (h : k ≤ m) : 2 ^ k ≤ 2 ^ m := Nat.pow_le_pow_right (by omega) h
theorem vW_join {A : Au} {v : Nat → Nat} {c1 : Nat} (h1 : 1 ≤ c1) : ∀ (L c2 j : Nat), 2 ^ L ≤ c2 → c2 < 2 ^ (L + 1) → vW A v (c1 * 2 ^ L + (c2 - 2 ^ L)) j = vW A (vW A v c1) c2 j := by
  intro L
  induction L with
  | zero =>
    intro c2 j h2 h3
    have e : c2 = 1 := by
      have : (2 : Nat) ^ 0 = 1 := rfl
      have : (2 : Nat) ^ (0 + 1) = 2 := rfl
      omega
    subst e
    rw [vW_low (c := 1) (by omega), show c1 * 2 ^ 0 + (1 - 2 ^ 0) = c1 by rw [Nat.pow_zero]; omega]
  | succ L ih =>
    intro c2 j h2 h3
    have e1 : (2 : Nat) ^ (L + 1) = 2 * 2 ^ L := by rw [Nat.pow_succ]; omega
    have e2 : (2 : Nat) ^ (L + 1 + 1) = 4 * 2 ^ L := by rw [Nat.pow_succ, e1]; omega
    have hp : 0 < 2 ^ L := Nat.two_pow_pos _
    have e3 : c1 * 2 ^ (L + 1) = 2 * (c1 * 2 ^ L) := by rw [e1, Nat.mul_left_comm]
    have e4 : 1 * 2 ^ L ≤ c1 * 2 ^ L := Nat.mul_le_mul_right _ h1
    rw [e3, e1]
    rw [e1] at h2
    rw [e2] at h3
    have hc2 := ih (c2 / 2)
    generalize (2 : Nat) ^ L = z at *
    generalize c1 * z = y at *
    rw [vW_hi (c := 2 * y + (c2 - 2 * z)) (by omega), vW_hi (c := c2) (by omega), show (2 * y + (c2 - 2 * z)) % 2 = c2 % 2 by omega, show (2 * y + (c2 - 2 * z)) / 2 = y + (c2 / 2 - z) by omega]
    exact stpA_congr (fun i _ => hc2 i (by omega) (by omega))
section PT
variable {Γ : zSh} {N : Mem} {R : Mem} {J : Nat → Nat → Int64} {p x a pt cap n : Nat} {A X : Au}
/-- the class's path -/
def ptS (Γ : zSh) (R : Mem) (pt : Nat) : Prop := Γ pt = some (4 + 5, 0) ∧ Γ (pt + 1) = some (0, 12) ∧ Γ (pt + 2) = some (3, 12) ∧ R pt 0 = pt + 1 ∧ R pt 1 = pt + 2 ∧ pt ≠ 0 ∧ ∀ k, k < 12 → Γ (pt + 3 + k) = some (0, 12) ∧ R (pt + 2) k = pt + 3 + k
def ptI (N : Mem) (pt : Nat) (A : Au) : Prop := (∀ j, j < A.1 → N (pt + 3) j = A.2.1 j) ∧ ∀ k, 1 ≤ k → k < 12 → N (pt + 1) k < 4096 ∧ (N (pt + 1) k = 0 ∨ ∀ j, j < A.1 → N (pt + 3 + k) j = vW A A.2.1 (N (pt + 1) k) j)
theorem pt_len {word L : Nat} (h1 : 2 ^ L ≤ word + 1) (h2 : word + 1 < 2 ^ (L + 1)) (hw : word ≤ 1000000) {σ : zSt} : f_X6_lengthOf Γ (nI word) σ = some (nI L, σ) := by
  have hL : L < 20 := by
    rcases Nat.lt_or_ge L 20 with e | e
    · exact e
    · have : (2 : Nat) ^ 20 ≤ 2 ^ L := two_le e
      omega
  unfold f_X6_lengthOf
  rw [L0, L1, nI_add, show nI 1 &&& 31 = nI 1 &&& (31 : Int32) from rfl, shr_n (by omega) (by omega)]
  refine (lb1_of (loop_for (fun k => (nI k, nI ((word + 1) / 2 ^ (k + 1)), σ)) (nI L, σ) L rfl (by unfold FUEL; omega) ?_ ?_)).trans rfl
  · intro k hk
    have e0 := (lg_div (k := L - (k + 1)) h1 h2 (by omega)).1
    rw [show L - (L - (k + 1)) = k + 1 by omega] at e0
    have e1 : 0 < (2 : Nat) ^ (L - (k + 1)) := Nat.two_pow_pos _
    have e2 : (word + 1) / 2 ^ (k + 1) ≤ word + 1 := Nat.div_le_self _ _
    have e3 := div_s (c := word + 1) (k := k + 1)
    show f_X6_lengthOf_B8 _ _ _ _ = _
    unfold f_X6_lengthOf_B8
    generalize (word + 1) / 2 ^ (k + 1) = z at *
    rw [L0, ile_f (by omega) (by omega), L1, nI_add, shr_n (by omega) (by omega), e3, Nat.pow_one]
  · have e0 : (word + 1) / 2 ^ (L + 1) = 0 := Nat.div_eq_of_lt h2
    show f_X6_lengthOf_B8 _ _ _ _ = _
    unfold f_X6_lengthOf_B8
    rw [e0, L0, ile_t (by omega) (by omega)]
theorem pt_start (h : ptS Γ R pt) (k : auS Γ R a cap) (d : a + 6 ≤ pt ∨ pt + 15 ≤ a) (hA : cAu N a A) (hc : A.1 ≤ cap) (h12 : A.1 ≤ 12) : Mx (f_X4_start Γ pt a (cS N R J)) (fun σ => ((), σ)) R J (fun N' => frA N N' (pt + 1) (pt + 15) ∧ ptI N' pt A) := by
  have hc24 := k.c24
  have ha := k.a0
  have e0 := hA.1
  obtain ⟨p1, p2, p3, p4, p5, p6, p7⟩ := id h
  have g0 := (p7 0 (by omega)).1
  have g1 := (p7 0 (by omega)).2
  have hf : f_J7_fill_53178 Γ (pt + 1) (nI 0) (cS N R J) = some ((), cS (setF N (pt + 1) (fun j => if j < 12 then 0 else N (pt + 1) j)) R J) := by
    unfold f_J7_fill_53178
    rw [c_alI p2, L0]
    refine (lb0_of (loop_for (fun k => (nI k, cS (setF N (pt + 1) (fun j => if j < k then 0 else N (pt + 1) j)) R J)) (cS (setF N (pt + 1) (fun j => if j < 12 then 0 else N (pt + 1) j)) R J) 12 ?_ (by unfold FUEL; omega) ?_ ?_)).trans rfl
    · have : (fun j => if j < 0 then 0 else N (pt + 1) j) = N (pt + 1) := by
        funext j
        rw [if_neg (by omega)]
      rw [this, setF_self]
    · intro k hk
      show f_J7_fill_53178_B5 _ _ _ _ _ _ = _
      unfold f_J7_fill_53178_B5
      simp (disch := omega) only [c_bnd, c_chk, c_lb0, c_lb1, c_lb2, c_lb3, L0, L1, L2, L10007, nI_add, pk_mul, ile_t, ile_f, ilt_t, ilt_f, ieq_t, ieq_f, c_rmI, setF_at, setF_ne, setF_setF, true_and, up1_at, up1_ne, pk_sub, pk_cpy_in, pk_cpy_out, Nat.zero_add, Nat.add_zero, Nat.zero_mul, Nat.sub_zero, Nat.add_sub_cancel_left, c_stI p2]
      have : up1 (fun j => if j < k then 0 else N (pt + 1) j) k 0 = fun j => if j < k + 1 then 0 else N (pt + 1) j := by
        funext j
        by_cases e1 : j = k
        · subst e1
          rw [up1_at, if_pos (by omega)]
        · rw [up1_ne e1]
          by_cases e2 : j < k
          · rw [if_pos e2, if_pos (by omega)]
          · rw [if_neg e2, if_neg (by omega)]
      rw [this]
    · show f_J7_fill_53178_B5 _ _ _ _ _ _ = _
      unfold f_J7_fill_53178_B5
      simp (disch := omega) only [c_bnd, c_chk, c_lb0, c_lb1, c_lb2, c_lb3, L0, L1, L2, L10007, nI_add, pk_mul, ile_t, ile_f, ilt_t, ilt_f, ieq_t, ieq_f, c_rmI, setF_at, setF_ne, setF_setF, true_and, up1_at, up1_ne, pk_sub, pk_cpy_in, pk_cpy_out, Nat.zero_add, Nat.add_zero, Nat.zero_mul, Nat.sub_zero, Nat.add_sub_cancel_left]
  unfold f_X4_start
  simp (disch := omega) only [c_bnd, c_chk, c_lb0, c_lb1, c_lb2, c_lb3, L0, L1, L2, L10007, nI_add, pk_mul, ile_t, ile_f, ilt_t, ilt_f, ieq_t, ieq_f, c_rmI, setF_at, setF_ne, setF_setF, true_and, up1_at, up1_ne, pk_sub, pk_cpy_in, pk_cpy_out, Nat.zero_add, Nat.add_zero, Nat.zero_mul, Nat.sub_zero, Nat.add_sub_cancel_left, c_gfR p1 p4, hf, c_gfI k.ob, c_pfI k.ob, c_gfR k.ob k.r1, c_gfR k.ob k.r2, c_gfR k.ob k.r3, c_ldI k.g1, c_ldI k.g2, c_stI k.g1, c_stI k.g2, c_chkO k.ob, c_gfR p1 p5, c_ldG p3 g1, e0, c_cpI k.g1 g0]
  refine mx_eq rfl ⟨(frA.set (by omega) (by omega)).trans (frA.set (by omega) (by omega)), fun j hj => ?_, fun k hk1 hk2 => ?_⟩
  · simp (disch := omega) only [c_bnd, c_chk, c_lb0, c_lb1, c_lb2, c_lb3, L0, L1, L2, L10007, nI_add, pk_mul, ile_t, ile_f, ilt_t, ilt_f, ieq_t, ieq_f, c_rmI, setF_at, setF_ne, setF_setF, true_and, up1_at, up1_ne, pk_sub, pk_cpy_in, pk_cpy_out, Nat.zero_add, Nat.add_zero, Nat.zero_mul, Nat.sub_zero, Nat.add_sub_cancel_left, (hA.2 j hj).1]
  · simp (disch := omega) only [c_bnd, c_chk, c_lb0, c_lb1, c_lb2, c_lb3, L0, L1, L2, L10007, nI_add, pk_mul, ile_t, ile_f, ilt_t, ilt_f, ieq_t, ieq_f, c_rmI, setF_at, setF_ne, setF_setF, true_and, up1_at, up1_ne, pk_sub, pk_cpy_in, pk_cpy_out, Nat.zero_add, Nat.add_zero, Nat.zero_mul, Nat.sub_zero, Nat.add_sub_cancel_left, if_pos hk2]
    exact ⟨by omega, Or.inl trivial⟩
theorem pt_weigh (h : ptS Γ R pt) (k : auS Γ R a cap) (d : a + 6 ≤ pt ∨ pt + 15 ≤ a) (hA : cAu N a A) (hc : A.1 ≤ cap) (h12 : A.1 ≤ 12) (ok : okA A) (hI : ptI N pt A) {word : Nat} (hw : word < 4095) : Mx (f_X4_weigh Γ pt a (nI word) (cS N R J)) (fun σ => (nI (wtA A (vW A A.2.1 (word + 1))), σ)) R J (fun N' => frA N N' (pt + 1) (pt + 15) ∧ ptI N' pt A) := by
  have hc24 := k.c24
  have ha := k.a0
  have hb : ∀ j, j < A.1 → A.2.1 j < 10007 := fun j hj => (ok j hj).1
  obtain ⟨p1, p2, p3, p4, p5, p6, p7⟩ := id h
  obtain ⟨L, hL, h1, h2⟩ := lg_ex 11 (word + 1) (by omega) (by omega)
  have hrow : ∀ k, k ≤ L → 0 < (2 : Nat) ^ k := fun k _ => Nat.two_pow_pos k
  unfold f_X4_weigh
  rw [pt_len h1 h2 (by omega), c_bnd]
  have hmin : (if (11 : Int32) < nI L then 11 else nI L) = nI L := by
    rw [L11, ilt_f (by omega) (by omega)]
  rw [hmin, L1]
  refine mx_lb0 (mx_for (fun k N' => frA N N' (pt + 1) (pt + 15) ∧ ptI N' pt A ∧ ∀ j, j < A.1 → N' (pt + 3 + (k - 1)) j = vW A A.2.1 ((word + 1) / 2 ^ (L - (k - 1))) j) (s := 1) (e := L + 1) (by omega) (by omega) ⟨frA.refl, hI, fun j hj => ?_⟩ ?_ ?_) ?_
  · have := lg_div (k := 0) h1 h2 (by omega)
    have e : (2 : Nat) ^ (0 + 1) = 2 := rfl
    have e2 : (word + 1) / 2 ^ (L - (1 - 1)) ≤ 1 := by
      rw [show L - (1 - 1) = L - 0 from rfl]
      generalize (word + 1) / 2 ^ (L - 0) = z at this ⊢
      omega
    rw [vW_low e2]
    exact hI.1 j hj
  · intro k' N1 hk1 hk2 ⟨r1, r2, r3⟩
    obtain ⟨i, rfl⟩ : ∃ i, k' = i + 1 := ⟨k' - 1, by omega⟩
    rw [Nat.add_sub_cancel] at r3
    have hiL : i + 1 ≤ L := by omega
    have hA1 := hA.fr r1 (by omega)
    obtain ⟨b1, b2⟩ := r2.2 (i + 1) (by omega) (by omega)
    have e0 := lg_div (k := i + 1) h1 h2 hiL
    have e1 : (2 : Nat) ^ 1 ≤ 2 ^ (i + 1) := two_le (by omega)
    have e1' : (2 : Nat) ^ 1 = 2 := rfl
    have e2 : (2 : Nat) ^ (i + 1 + 1) ≤ 2 ^ 12 := two_le (by omega)
    have e2' : (2 : Nat) ^ 12 = 4096 := rfl
    have e3 : (word + 1) / 2 ^ (L - i) = (word + 1) / 2 ^ (L - (i + 1)) / 2 := by
      rw [← div_s]
      congr 2
      omega
    have g0 := (p7 i (by omega)).1
    have g0' := (p7 i (by omega)).2
    have g1 := (p7 (i + 1) (by omega)).1
    have g1' := (p7 (i + 1) (by omega)).2
    have hsh : (nI word + nI 1) >>> ((nI L - nI (i + 1)) &&& 31) = nI ((word + 1) / 2 ^ (L - (i + 1))) := by
      rw [nI_add, pk_sub hiL, shr_n (by omega) (by omega)]
    show Mx (f_X4_weigh_B13 _ _ _ _ _ _ _) _ _ _ _
    unfold f_X4_weigh_B13
    rw [ilt_f (by omega) (by omega), L1, hsh, Nat.add_sub_cancel]
    generalize hz : (word + 1) / 2 ^ (L - (i + 1)) = z at *
    have hz2 : z < 4096 := by omega
    by_cases e : N1 (pt + 1) (i + 1) = z
    · simp (disch := omega) only [c_bnd, c_chk, c_lb0, c_lb1, c_lb2, c_lb3, L0, L1, L2, L10007, nI_add, pk_mul, ile_t, ile_f, ilt_t, ilt_f, ieq_t, ieq_f, c_rmI, setF_at, setF_ne, setF_setF, true_and, up1_at, up1_ne, pk_sub, pk_cpy_in, pk_cpy_out, Nat.zero_add, Nat.add_zero, Nat.zero_mul, Nat.sub_zero, Nat.add_sub_cancel_left, c_gfR p1 p4, c_ldI p2]
      unfold f_X4_weigh_B13_L74
      simp (disch := omega) only [c_bnd, c_chk, c_lb0, c_lb1, c_lb2, c_lb3, L0, L1, L2, L10007, nI_add, pk_mul, ile_t, ile_f, ilt_t, ilt_f, ieq_t, ieq_f, c_rmI, setF_at, setF_ne, setF_setF, true_and, up1_at, up1_ne, pk_sub, pk_cpy_in, pk_cpy_out, Nat.zero_add, Nat.add_zero, Nat.zero_mul, Nat.sub_zero, Nat.add_sub_cancel_left]
      refine mx_eq rfl ⟨r1, r2, fun j hj => ?_⟩
      rcases b2 with b2 | b2
      · omega
      · rw [← e]
        exact b2 j hj
    · simp (disch := omega) only [c_bnd, c_chk, c_lb0, c_lb1, c_lb2, c_lb3, L0, L1, L2, L10007, nI_add, pk_mul, ile_t, ile_f, ilt_t, ilt_f, ieq_t, ieq_f, c_rmI, setF_at, setF_ne, setF_setF, true_and, up1_at, up1_ne, pk_sub, pk_cpy_in, pk_cpy_out, Nat.zero_add, Nat.add_zero, Nat.zero_mul, Nat.sub_zero, Nat.add_sub_cancel_left, c_gfR p1 p4, c_ldI p2, c_gfR p1 p5, pk_sub, Nat.add_sub_cancel, c_ldG p3 g0', c_ldG p3 g1', and_1, c_gfI k.ob, c_pfI k.ob, c_gfR k.ob k.r1, c_gfR k.ob k.r2, c_gfR k.ob k.r3, c_ldI k.g1, c_ldI k.g2, c_stI k.g1, c_stI k.g2, c_chkO k.ob]
      rw [s_take k hA1 hc ok (l := z % 2) (by omega) g0 h12 (by omega) g1 h12 (by omega) (by omega) (fun j hj => by rw [r3 j hj]; exact vW_lt hb hj)]
      simp (disch := omega) only [c_bnd, c_chk, c_lb0, c_lb1, c_lb2, c_lb3, L0, L1, L2, L10007, nI_add, pk_mul, ile_t, ile_f, ilt_t, ilt_f, ieq_t, ieq_f, c_rmI, setF_at, setF_ne, setF_setF, true_and, up1_at, up1_ne, pk_sub, pk_cpy_in, pk_cpy_out, Nat.zero_add, Nat.add_zero, Nat.zero_mul, Nat.sub_zero, Nat.add_sub_cancel_left, c_gfR p1 p4, c_stI p2]
      unfold f_X4_weigh_B13_L74
      simp (disch := omega) only [c_bnd, c_chk, c_lb0, c_lb1, c_lb2, c_lb3, L0, L1, L2, L10007, nI_add, pk_mul, ile_t, ile_f, ilt_t, ilt_f, ieq_t, ieq_f, c_rmI, setF_at, setF_ne, setF_setF, true_and, up1_at, up1_ne, pk_sub, pk_cpy_in, pk_cpy_out, Nat.zero_add, Nat.add_zero, Nat.zero_mul, Nat.sub_zero, Nat.add_sub_cancel_left]
      have hnew : ∀ j, j < A.1 → stpA A (z % 2) (N1 (pt + 3 + i)) j = vW A A.2.1 z j := by
        intro j hj
        rw [vW_hi (c := z) (by omega), ← e3]
        exact stpA_congr r3
      refine mx_eq rfl ⟨r1.trans ((frA.set (by omega) (by omega)).trans (frA.set (by omega) (by omega))), ⟨fun j hj => ?_, fun k hk1 hk2 => ?_⟩, fun j hj => ?_⟩
      · simp (disch := omega) only [c_bnd, c_chk, c_lb0, c_lb1, c_lb2, c_lb3, L0, L1, L2, L10007, nI_add, pk_mul, ile_t, ile_f, ilt_t, ilt_f, ieq_t, ieq_f, c_rmI, setF_at, setF_ne, setF_setF, true_and, up1_at, up1_ne, pk_sub, pk_cpy_in, pk_cpy_out, Nat.zero_add, Nat.add_zero, Nat.zero_mul, Nat.sub_zero, Nat.add_sub_cancel_left]
        exact r2.1 j hj
      · by_cases f : k = i + 1
        · subst f
          simp (disch := omega) only [c_bnd, c_chk, c_lb0, c_lb1, c_lb2, c_lb3, L0, L1, L2, L10007, nI_add, pk_mul, ile_t, ile_f, ilt_t, ilt_f, ieq_t, ieq_f, c_rmI, setF_at, setF_ne, setF_setF, true_and, up1_at, up1_ne, pk_sub, pk_cpy_in, pk_cpy_out, Nat.zero_add, Nat.add_zero, Nat.zero_mul, Nat.sub_zero, Nat.add_sub_cancel_left]
          refine ⟨hz2, Or.inr fun j hj => ?_⟩
          rw [if_pos hj]
          exact hnew j hj
        · simp (disch := omega) only [c_bnd, c_chk, c_lb0, c_lb1, c_lb2, c_lb3, L0, L1, L2, L10007, nI_add, pk_mul, ile_t, ile_f, ilt_t, ilt_f, ieq_t, ieq_f, c_rmI, setF_at, setF_ne, setF_setF, true_and, up1_at, up1_ne, pk_sub, pk_cpy_in, pk_cpy_out, Nat.zero_add, Nat.add_zero, Nat.zero_mul, Nat.sub_zero, Nat.add_sub_cancel_left]
          exact r2.2 k hk1 hk2
      · simp (disch := omega) only [c_bnd, c_chk, c_lb0, c_lb1, c_lb2, c_lb3, L0, L1, L2, L10007, nI_add, pk_mul, ile_t, ile_f, ilt_t, ilt_f, ieq_t, ieq_f, c_rmI, setF_at, setF_ne, setF_setF, true_and, up1_at, up1_ne, pk_sub, pk_cpy_in, pk_cpy_out, Nat.zero_add, Nat.add_zero, Nat.zero_mul, Nat.sub_zero, Nat.add_sub_cancel_left]
        rw [if_pos hj]
        exact hnew j hj
  · intro N1 _
    show f_X4_weigh_B13 _ _ _ _ _ _ _ = _
    unfold f_X4_weigh_B13
    simp (disch := omega) only [c_bnd, c_chk, c_lb0, c_lb1, c_lb2, c_lb3, L0, L1, L2, L10007, nI_add, pk_mul, ile_t, ile_f, ilt_t, ilt_f, ieq_t, ieq_f, c_rmI, setF_at, setF_ne, setF_setF, true_and, up1_at, up1_ne, pk_sub, pk_cpy_in, pk_cpy_out, Nat.zero_add, Nat.add_zero, Nat.zero_mul, Nat.sub_zero, Nat.add_sub_cancel_left]
  · intro N1 ⟨r1, r2, r3⟩
    have hA1 := hA.fr r1 (by omega)
    have g0 := (p7 L (by omega)).1
    have g0' := (p7 L (by omega)).2
    rw [Nat.add_sub_cancel, Nat.sub_self, Nat.pow_zero, Nat.div_one] at r3
    simp (disch := omega) only [c_bnd, c_chk, c_lb0, c_lb1, c_lb2, c_lb3, L0, L1, L2, L10007, nI_add, pk_mul, ile_t, ile_f, ilt_t, ilt_f, ieq_t, ieq_f, c_rmI, setF_at, setF_ne, setF_setF, true_and, up1_at, up1_ne, pk_sub, pk_cpy_in, pk_cpy_out, Nat.zero_add, Nat.add_zero, Nat.zero_mul, Nat.sub_zero, Nat.add_sub_cancel_left, c_gfR p1 p5, c_ldG p3 g0', c_gfI k.ob, c_pfI k.ob, c_gfR k.ob k.r1, c_gfR k.ob k.r2, c_gfR k.ob k.r3, c_ldI k.g1, c_ldI k.g2, c_stI k.g1, c_stI k.g2, c_chkO k.ob]
    rw [s_wt k hA1 hc ok g0 h12 (by omega) (fun j hj => by rw [r3 j hj]; exact vW_lt hb hj), wtA_congr r3]
    exact mx_eq rfl ⟨r1, r2⟩
end PT
