/-! ===== the class's automata: sums, products ===== -/
def sumA (X Y : Au) : Au := (X.1 + Y.1, fun i => if i < X.1 then X.2.1 i else Y.2.1 (i - X.1), fun i => if i < X.1 then X.2.2.1 i else Y.2.2.1 (i - X.1), fun l i j => if i < X.1 ∧ j < X.1 then X.2.2.2 l i j else if X.1 ≤ i ∧ X.1 ≤ j then Y.2.2.2 l (i - X.1) (j - X.1) else 0)
def difA (X Y : Au) : Au := (X.1 + Y.1, fun i => if i < X.1 then X.2.1 i else (10007 - Y.2.1 (i - X.1)) % 10007, (sumA X Y).2.2.1, (sumA X Y).2.2.2)
def cauA (X Y : Au) : Au := (X.1 + Y.1, fun i => if i < X.1 then X.2.1 i else Y.2.1 (i - X.1) * wtA X X.2.1 % 10007, fun i => if i < X.1 then X.2.2.1 i * wtA Y Y.2.1 % 10007 else Y.2.2.1 (i - X.1), fun l i j => if i < X.1 ∧ j < X.1 then X.2.2.2 l i j else if X.1 ≤ i ∧ X.1 ≤ j then Y.2.2.2 l (i - X.1) (j - X.1) else if i < X.1 then outA X l i * Y.2.1 (j - X.1) % 10007 else 0)
def hadA (X Y : Au) : Au := (X.1 * Y.1, fun s => X.2.1 (s / Y.1) * Y.2.1 (s % Y.1) % 10007, fun s => X.2.2.1 (s / Y.1) * Y.2.2.1 (s % Y.1) % 10007, fun l s t => X.2.2.2 l (s / Y.1) (t / Y.1) * Y.2.2.2 l (s % Y.1) (t % Y.1) % 10007)
def staA (X : Au) : Au := (X.1 + 1, fun i => if i = 0 then 1 else 0, fun i => if i = 0 then 1 else 0, fun l i j => if i = 0 then (if j = 0 then nsum X.1 (fun k => X.2.1 k * outA X l k) % 10007 else intA X l (j - 1)) else if j = 0 then outA X l (i - 1) else X.2.2.2 l (i - 1) (j - 1))
def quoA (X : Au) (l : Nat) : Au := (X.1, fun j => intA X l j, X.2.2.1, X.2.2.2)
def revA (X : Au) : Au := (X.1, X.2.2.1, X.2.1, fun l i j => X.2.2.2 l j i)
def scaA (X : Au) (c : Nat) : Au := (X.1, fun i => X.2.1 i * c % 10007, X.2.2.1, X.2.2.2)
def numA (v : Nat) : Au := (1, fun _ => 1, fun _ => v, fun _ _ _ => 0)
def letA (c : Nat) : Au := (2, fun i => if i = 0 then 1 else 0, fun i => if i = 1 then 1 else 0, fun l i j => if l = c ∧ i = 0 ∧ j = 1 then 1 else 0)
theorem sumA_ok {X Y : Au} (hX : okA X) (hY : okA Y) : okA (sumA X Y) := by
  intro i hi
  have hi' : i < X.1 + Y.1 := hi
  refine ⟨?_, ?_, fun j l hj hl => ?_⟩
  · show (if i < X.1 then _ else _) < _
    by_cases e : i < X.1
    · rw [if_pos e]; exact (hX i e).1
    · rw [if_neg e]; exact (hY _ (by omega)).1
  · show (if i < X.1 then _ else _) < _
    by_cases e : i < X.1
    · rw [if_pos e]; exact (hX i e).2.1
    · rw [if_neg e]; exact (hY _ (by omega)).2.1
  · have hj' : j < X.1 + Y.1 := hj
    show (if i < X.1 ∧ j < X.1 then _ else _) < _
    by_cases e : i < X.1 ∧ j < X.1
    · rw [if_pos e]; exact (hX i e.1).2.2 j l e.2 hl
    · rw [if_neg e]
      by_cases e2 : X.1 ≤ i ∧ X.1 ≤ j
      · rw [if_pos e2]; exact (hY _ (by omega)).2.2 _ l (by omega) hl
      · rw [if_neg e2]; omega
theorem difA_ok {X Y : Au} (hX : okA X) (hY : okA Y) : okA (difA X Y) := by
  intro i hi
  have h := sumA_ok hX hY i hi
  refine ⟨?_, h.2⟩
  show (if i < X.1 then _ else _) < _
  by_cases e : i < X.1
  · rw [if_pos e]; exact (hX i e).1
  · rw [if_neg e]; exact mlt _
theorem cauA_ok {X Y : Au} (hX : okA X) (hY : okA Y) : okA (cauA X Y) := by
  intro i hi
  have hi' : i < X.1 + Y.1 := hi
  refine ⟨?_, ?_, fun j l hj hl => ?_⟩
  · show (if i < X.1 then _ else _) < _
    by_cases e : i < X.1
    · rw [if_pos e]; exact (hX i e).1
    · rw [if_neg e]; exact mlt _
  · show (if i < X.1 then _ else _) < _
    by_cases e : i < X.1
    · rw [if_pos e]; exact mlt _
    · rw [if_neg e]; exact (hY _ (by omega)).2.1
  · have hj' : j < X.1 + Y.1 := hj
    show (if i < X.1 ∧ j < X.1 then _ else _) < _
    by_cases e : i < X.1 ∧ j < X.1
    · rw [if_pos e]; exact (hX i e.1).2.2 j l e.2 hl
    · rw [if_neg e]
      by_cases e2 : X.1 ≤ i ∧ X.1 ≤ j
      · rw [if_pos e2]; exact (hY _ (by omega)).2.2 _ l (by omega) hl
      · rw [if_neg e2]
        by_cases e3 : i < X.1
        · rw [if_pos e3]; exact mlt _
        · rw [if_neg e3]; omega
theorem hadA_ok {X Y : Au} : okA (hadA X Y) := fun i hi => ⟨mlt _, mlt _, fun j l hj hl => mlt _⟩
theorem staA_ok {X : Au} (hX : okA X) : okA (staA X) := by
  intro i hi
  have hi' : i < X.1 + 1 := hi
  have h1 : (if i = 0 then 1 else 0) < 10007 := by
    by_cases e : i = 0
    · rw [if_pos e]; omega
    · rw [if_neg e]; omega
  refine ⟨h1, h1, fun j l hj hl => ?_⟩
  have hj' : j < X.1 + 1 := hj
  show (if i = 0 then _ else _) < _
  by_cases e : i = 0
  · rw [if_pos e]
    by_cases e2 : j = 0
    · rw [if_pos e2]; exact mlt _
    · rw [if_neg e2]; exact mlt _
  · rw [if_neg e]
    by_cases e2 : j = 0
    · rw [if_pos e2]; exact mlt _
    · rw [if_neg e2]; exact (hX _ (by omega)).2.2 _ l (by omega) hl
theorem quoA_ok {X : Au} {c : Nat} (hX : okA X) : okA (quoA X c) := fun i hi => ⟨mlt _, (hX i hi).2.1, (hX i hi).2.2⟩
theorem revA_ok {X : Au} (hX : okA X) : okA (revA X) := fun i hi => ⟨(hX i hi).2.1, (hX i hi).1, fun j l hj hl => (hX j hj).2.2 i l hi hl⟩
theorem scaA_ok {X : Au} {c : Nat} (hX : okA X) : okA (scaA X c) := fun i hi => ⟨mlt _, (hX i hi).2.1, (hX i hi).2.2⟩
theorem numA_ok {v : Nat} (h : v < 10007) : okA (numA v) := fun i hi => ⟨(by show 1 < 10007; omega), h, fun j l hj hl => (by show 0 < 10007; omega)⟩
theorem letA_ok {c : Nat} : okA (letA c) := by
  intro i hi
  refine ⟨?_, ?_, fun j l hj hl => ?_⟩
  · show (if i = 0 then 1 else 0) < 10007
    by_cases e : i = 0
    · rw [if_pos e]; omega
    · rw [if_neg e]; omega
  · show (if i = 1 then 1 else 0) < 10007
    by_cases e : i = 1
    · rw [if_pos e]; omega
    · rw [if_neg e]; omega
  · show (if l = c ∧ i = 0 ∧ j = 1 then 1 else 0) < 10007
    by_cases e : l = c ∧ i = 0 ∧ j = 1
    · rw [if_pos e]; omega
    · rw [if_neg e]; omega
section CC
variable {Γ : zSh} {N : Mem} {R : Nat → Nat → Nat} {J : Nat → Nat → Int64} {a x y cap cx cy n t m : Nat} {A X Y : Au}
theorem s_sum (h : auS Γ R a cap) (k : auS Γ R x cx) (k' : auS Γ R y cy) (d : a + 6 ≤ x ∨ x + 6 ≤ a) (d' : a + 6 ≤ y ∨ y + 6 ≤ a) (hX : cAu N x X) (hx : X.1 ≤ cx) (hY : cAu N y Y) (hy : Y.1 ≤ cy) (hc : X.1 + Y.1 ≤ cap) : Mx (f_X0_becomeSum Γ a x y (cS N R J)) (fun σ => ((), σ)) R J (fun N' => frA N N' a (a + 6) ∧ cAu N' a (sumA X Y)) := by
  have hc24 := h.c24
  have hc24' := k.c24
  have hc24'' := k'.c24
  have ha := h.a0
  have e0 := hX.1
  have e1 := hY.1
  unfold f_X0_becomeSum
  simp (disch := omega) only [c_bnd, c_chk, c_lb0, c_lb1, c_lb2, c_lb3, L0, L1, L2, L10007, nI_add, pk_mul, ile_t, ile_f, ilt_t, ilt_f, ieq_t, ieq_f, c_rmI, setF_at, setF_ne, setF_setF, true_and, up1_at, up1_ne, pk_sub, pk_cpy_in, pk_cpy_out, Nat.zero_add, Nat.add_zero, Nat.zero_mul, Nat.sub_zero, Nat.add_sub_cancel_left, c_gfI h.ob, c_pfI h.ob, c_gfR h.ob h.r1, c_gfR h.ob h.r2, c_gfR h.ob h.r3, c_ldI h.g1, c_ldI h.g2, c_stI h.g1, c_stI h.g2, c_chkO h.ob, c_gfI k.ob, c_pfI k.ob, c_gfR k.ob k.r1, c_gfR k.ob k.r2, c_gfR k.ob k.r3, c_ldI k.g1, c_ldI k.g2, c_stI k.g1, c_stI k.g2, c_chkO k.ob, c_gfI k'.ob, c_pfI k'.ob, c_gfR k'.ob k'.r1, c_gfR k'.ob k'.r2, c_gfR k'.ob k'.r3, c_ldI k'.g1, c_ldI k'.g2, c_stI k'.g1, c_stI k'.g2, c_chkO k'.ob, e0, e1]
  refine mx_bnd (s_clear h hc) ?_
  intro N1 ⟨q1, q2, q3, q4⟩
  have hX1 := hX.fr q1 d.symm
  refine mx_bnd (s_place h k d hX1 hx q2 hc (by omega)) ?_
  intro N2 ⟨p1, p2, p3, p4⟩
  have hX2 := hX1.fr p1 d.symm
  have hY2 := (hY.fr q1 d'.symm).fr p1 d'.symm
  have e3 := hX2.1
  simp (disch := omega) only [c_bnd, c_chk, c_lb0, c_lb1, c_lb2, c_lb3, L0, L1, L2, L10007, nI_add, pk_mul, ile_t, ile_f, ilt_t, ilt_f, ieq_t, ieq_f, c_rmI, setF_at, setF_ne, setF_setF, true_and, up1_at, up1_ne, pk_sub, pk_cpy_in, pk_cpy_out, Nat.zero_add, Nat.add_zero, Nat.zero_mul, Nat.sub_zero, Nat.add_sub_cancel_left, c_gfI h.ob, c_pfI h.ob, c_gfR h.ob h.r1, c_gfR h.ob h.r2, c_gfR h.ob h.r3, c_ldI h.g1, c_ldI h.g2, c_stI h.g1, c_stI h.g2, c_chkO h.ob, c_gfI k.ob, c_pfI k.ob, c_gfR k.ob k.r1, c_gfR k.ob k.r2, c_gfR k.ob k.r3, c_ldI k.g1, c_ldI k.g2, c_stI k.g1, c_stI k.g2, c_chkO k.ob, e3]
  refine mx_bnd (s_place h k' d' hY2 hy p2 hc (by omega)) ?_
  intro N3 ⟨r1, r2, r3, r4⟩
  refine mx_eq rfl ?_
  refine ⟨(q1.trans p1).trans r1, r2, fun i hi => ?_⟩
  have hi' : i < X.1 + Y.1 := hi
  refine ⟨?_, ?_, fun j l hj hl => ?_⟩
  · rw [(r3 i).1, (p3 i).1]
    show _ = if i < X.1 then _ else _
    by_cases e : i < X.1
    · rw [if_neg (by omega), if_pos (by omega), if_pos e, Nat.sub_zero]
    · rw [if_pos (by omega), if_neg e]
  · rw [(r3 i).2, (p3 i).2]
    show _ = if i < X.1 then _ else _
    by_cases e : i < X.1
    · rw [if_neg (by omega), if_pos (by omega), if_pos e, Nat.sub_zero]
    · rw [if_pos (by omega), if_neg e]
  · have hj' : j < X.1 + Y.1 := hj
    refine (r4 l i j hl hi hj).trans ?_
    rw [p4 l i j hl hi' hj', q4 l _ hl (ix_lt' hi' hj')]
    show _ = if i < X.1 ∧ j < X.1 then _ else _
    by_cases e : i < X.1 ∧ j < X.1
    · rw [if_neg (by omega), if_pos (by omega), if_pos e, Nat.sub_zero, Nat.sub_zero]
    · rw [if_neg e]
      by_cases e2 : X.1 ≤ i ∧ X.1 ≤ j
      · rw [if_pos (by omega), if_pos e2]
      · rw [if_neg (by omega), if_neg (by omega), if_neg e2]
theorem s_dif (h : auS Γ R a cap) (k : auS Γ R x cx) (k' : auS Γ R y cy) (d : a + 6 ≤ x ∨ x + 6 ≤ a) (d' : a + 6 ≤ y ∨ y + 6 ≤ a) (hX : cAu N x X) (hx : X.1 ≤ cx) (hY : cAu N y Y) (hy : Y.1 ≤ cy) (hc : X.1 + Y.1 ≤ cap) (ok : okA Y) : Mx (f_X0_becomeDifference Γ a x y (cS N R J)) (fun σ => ((), σ)) R J (fun N' => frA N N' a (a + 6) ∧ cAu N' a (difA X Y)) := by
  have hc24 := h.c24
  have ha := h.a0
  unfold f_X0_becomeDifference
  simp (disch := omega) only [c_bnd, c_chk, c_lb0, c_lb1, c_lb2, c_lb3, L0, L1, L2, L10007, nI_add, pk_mul, ile_t, ile_f, ilt_t, ilt_f, ieq_t, ieq_f, c_rmI, setF_at, setF_ne, setF_setF, true_and, up1_at, up1_ne, pk_sub, pk_cpy_in, pk_cpy_out, Nat.zero_add, Nat.add_zero, Nat.zero_mul, Nat.sub_zero, Nat.add_sub_cancel_left, c_gfI h.ob, c_pfI h.ob, c_gfR h.ob h.r1, c_gfR h.ob h.r2, c_gfR h.ob h.r3, c_ldI h.g1, c_ldI h.g2, c_stI h.g1, c_stI h.g2, c_chkO h.ob]
  refine mx_bnd (s_sum h k k' d d' hX hx hY hy hc) ?_
  intro N1 ⟨q1, q2⟩
  have e0 := (hX.fr q1 d.symm).1
  simp (disch := omega) only [c_bnd, c_chk, c_lb0, c_lb1, c_lb2, c_lb3, L0, L1, L2, L10007, nI_add, pk_mul, ile_t, ile_f, ilt_t, ilt_f, ieq_t, ieq_f, c_rmI, setF_at, setF_ne, setF_setF, true_and, up1_at, up1_ne, pk_sub, pk_cpy_in, pk_cpy_out, Nat.zero_add, Nat.add_zero, Nat.zero_mul, Nat.sub_zero, Nat.add_sub_cancel_left, c_gfI k.ob, c_pfI k.ob, c_gfR k.ob k.r1, c_gfR k.ob k.r2, c_gfR k.ob k.r3, c_ldI k.g1, c_ldI k.g2, c_stI k.g1, c_stI k.g2, c_chkO k.ob, e0]
  refine mx_lb0 (mx_for (fun c N' => frA N1 N' (a + 1) (a + 2) ∧ ∀ i, i < X.1 + Y.1 → N' (a + 1) i = if i < c then (difA X Y).2.1 i else (sumA X Y).2.1 i) (e := X.1 + Y.1) (by omega) (by omega) ⟨frA.refl, ?_⟩ ?_ ?_) ?_
  · intro i hi
    rw [(q2.2 i hi).1]
    show (if i < X.1 then _ else _) = if i < X.1 then (if i < X.1 then _ else _) else if i < X.1 then _ else _
    by_cases e : i < X.1
    · simp only [if_pos e]
    · simp only [if_neg e]
  · intro c N2 hc1 hc2 ⟨p1, p2⟩
    have e2 : N2 a 0 = X.1 + Y.1 := by rw [p1 a (by omega)]; exact q2.1
    have e3 := p2 c hc2
    rw [if_neg (Nat.lt_irrefl c)] at e3
    have e4 : (sumA X Y).2.1 c = Y.2.1 (c - X.1) := if_neg (by omega)
    have e5 := (ok (c - X.1) (by omega)).1
    show Mx (f_X0_becomeDifference_B11 _ _ _ _) _ _ _ _
    unfold f_X0_becomeDifference_B11
    simp (disch := omega) only [c_bnd, c_chk, c_lb0, c_lb1, c_lb2, c_lb3, L0, L1, L2, L10007, nI_add, pk_mul, ile_t, ile_f, ilt_t, ilt_f, ieq_t, ieq_f, c_rmI, setF_at, setF_ne, setF_setF, true_and, up1_at, up1_ne, pk_sub, pk_cpy_in, pk_cpy_out, Nat.zero_add, Nat.add_zero, Nat.zero_mul, Nat.sub_zero, Nat.add_sub_cancel_left, c_gfI h.ob, c_pfI h.ob, c_gfR h.ob h.r1, c_gfR h.ob h.r2, c_gfR h.ob h.r3, c_ldI h.g1, c_ldI h.g2, c_stI h.g1, c_stI h.g2, c_chkO h.ob, e2, e3, e4]
    refine mx_eq rfl ?_
    refine ⟨p1.trans (frA.set (by omega) (by omega)), fun i hi => ?_⟩
    simp (disch := omega) only [c_bnd, c_chk, c_lb0, c_lb1, c_lb2, c_lb3, L0, L1, L2, L10007, nI_add, pk_mul, ile_t, ile_f, ilt_t, ilt_f, ieq_t, ieq_f, c_rmI, setF_at, setF_ne, setF_setF, true_and, up1_at, up1_ne, pk_sub, pk_cpy_in, pk_cpy_out, Nat.zero_add, Nat.add_zero, Nat.zero_mul, Nat.sub_zero, Nat.add_sub_cancel_left]
    by_cases e : i = c
    · subst e
      simp (disch := omega) only [c_bnd, c_chk, c_lb0, c_lb1, c_lb2, c_lb3, L0, L1, L2, L10007, nI_add, pk_mul, ile_t, ile_f, ilt_t, ilt_f, ieq_t, ieq_f, c_rmI, setF_at, setF_ne, setF_setF, true_and, up1_at, up1_ne, pk_sub, pk_cpy_in, pk_cpy_out, Nat.zero_add, Nat.add_zero, Nat.zero_mul, Nat.sub_zero, Nat.add_sub_cancel_left]
      rw [if_pos (by omega)]
      exact (if_neg (by omega)).symm
    · simp (disch := omega) only [c_bnd, c_chk, c_lb0, c_lb1, c_lb2, c_lb3, L0, L1, L2, L10007, nI_add, pk_mul, ile_t, ile_f, ilt_t, ilt_f, ieq_t, ieq_f, c_rmI, setF_at, setF_ne, setF_setF, true_and, up1_at, up1_ne, pk_sub, pk_cpy_in, pk_cpy_out, Nat.zero_add, Nat.add_zero, Nat.zero_mul, Nat.sub_zero, Nat.add_sub_cancel_left]
      rw [p2 i hi]
      by_cases e6 : i < c
      · rw [if_pos e6, if_pos (by omega)]
      · rw [if_neg e6, if_neg (by omega)]
  · intro N2 ⟨p1, p2⟩
    have e2 : N2 a 0 = X.1 + Y.1 := by rw [p1 a (by omega)]; exact q2.1
    show f_X0_becomeDifference_B11 _ _ _ _ = _
    unfold f_X0_becomeDifference_B11
    simp (disch := omega) only [c_bnd, c_chk, c_lb0, c_lb1, c_lb2, c_lb3, L0, L1, L2, L10007, nI_add, pk_mul, ile_t, ile_f, ilt_t, ilt_f, ieq_t, ieq_f, c_rmI, setF_at, setF_ne, setF_setF, true_and, up1_at, up1_ne, pk_sub, pk_cpy_in, pk_cpy_out, Nat.zero_add, Nat.add_zero, Nat.zero_mul, Nat.sub_zero, Nat.add_sub_cancel_left, c_gfI h.ob, c_pfI h.ob, c_gfR h.ob h.r1, c_gfR h.ob h.r2, c_gfR h.ob h.r3, c_ldI h.g1, c_ldI h.g2, c_stI h.g1, c_stI h.g2, c_chkO h.ob, e2]
  · intro N2 ⟨p1, p2⟩
    refine mx_eq rfl ?_
    refine ⟨q1.trans (p1.mono (by omega) (by omega)), ?_, fun i hi => ⟨?_, ?_, fun j l hj hl => ?_⟩⟩
    · rw [p1 a (by omega)]; exact q2.1
    · have hi' : i < X.1 + Y.1 := hi
      rw [p2 i hi, if_pos hi']
    · rw [p1 (a + 2) (by omega)]; exact (q2.2 i hi).2.1
    · rw [p1 (a + 4 + l) (by omega)]; exact (q2.2 i hi).2.2 j l hj hl
end CC
