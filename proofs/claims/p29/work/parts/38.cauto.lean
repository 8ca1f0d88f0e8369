/-! ===== the class's automata: star, drawing, hashing ===== -/
def nd (s : Nat) : Nat := (1103515245 * s + 12345) % 2147483648
def dv (s : Nat) : Nat := s / 65536 % 4
def ds (s : Nat) : Nat → Nat
  | 0 => s
  | k + 1 => nd (ds s k)
theorem nd_lt {s : Nat} : nd s < 2147483648 := Nat.mod_lt _ (by decide)
theorem ds_lt {s k : Nat} (h : s < 2147483648) : ds s k < 2147483648 := by
  cases k with
  | zero => exact h
  | succ k => exact nd_lt
theorem dv_lt {s : Nat} : dv s < 4 := Nat.mod_lt _ (by decide)
theorem l_nd {β : Type} {s : Nat} (h : s < 2147483648) {f : Int64 → Option β} : rmL ((1103515245 * lN s) + 12345) 2147483648 f = f (lN (nd s)) := by
  have e : ((1103515245 * lN s) + 12345 : Int64) = lN (1103515245 * s + 12345) := by
    rw [show (1103515245 : Int64) = lN 1103515245 from rfl, show (12345 : Int64) = lN 12345 from rfl, lN_mul, lN_add]
  unfold rmL
  rw [if_pos (by decide), e, show (2147483648 : Int64) = lN 2147483648 from rfl, pk_lRem (by omega) (by omega) (by omega)]
  rfl
theorem l_dv {β : Type} {s : Nat} (h : s < 2147483648) {f : Int64 → Option β} : (dvL (lN s) 65536 fun v1 => rmL v1 4 f) = f (lN (dv s)) := by
  unfold dvL rmL
  rw [if_pos (by decide)]
  dsimp only
  rw [if_pos (by decide), show (65536 : Int64) = lN 65536 from rfl, show (4 : Int64) = lN 4 from rfl, pk_lDiv (by omega) (by omega) (by omega), pk_lRem (by omega) (by omega) (by omega)]
  rfl
theorem l_i {k : Nat} (h : k < 2147483648) : (lN k).toInt32 = nI k := by
  apply Int32.toInt_inj.mp
  rw [Int64.toInt_toInt32, pk_lT (by omega), nI_toInt h]
  exact Int.bmod_eq_of_le (by omega) (by omega)
theorem i_l {k : Nat} (h : k < 2147483648) : (nI k).toInt64 = lN k := by
  apply Int64.toInt_inj.mp
  rw [Int32.toInt_toInt64, pk_lT (by omega), nI_toInt h]
def drwA (n s : Nat) : Au := (n, fun i => dv (ds s (2 * i + 1)), fun i => dv (ds s (2 * i + 2)), fun l i j => dv (ds s (2 * n + l * (n * n) + (i * n + j) + 1)))
theorem drwA_ok {n s : Nat} : okA (drwA n s) := by
  intro i _
  have h : ∀ x, dv x < 10007 := fun x => by
    have := dv_lt (s := x)
    omega
  exact ⟨h _, h _, fun j l _ _ => h _⟩
def hI (A : Au) (h : Int64) : Nat → Int64
  | 0 => 31 * h + (nI A.1).toInt64
  | k + 1 => 31 * (31 * hI A h k + (nI (A.2.1 k)).toInt64) + (nI (A.2.2.1 k)).toInt64
def hM (A : Au) (h : Int64) : Nat → Int64
  | 0 => hI A h A.1
  | k + 1 => 31 * hM A h k + (nI (A.2.2.2 (k / (A.1 * A.1)) (k % (A.1 * A.1) / A.1) (k % A.1))).toInt64
section CG
variable {Γ : zSh} {N : Mem} {R : Nat → Nat → Nat} {J : Nat → Nat → Int64} {a x y cap cx cy n t m l : Nat} {A X Y : Au}
theorem s_nextDraw {s : Nat} (h : s < 2147483648) {σ : zSt} : f_X0_nextDraw Γ (lN s) σ = some (lN (nd s), σ) := by
  unfold f_X0_nextDraw
  rw [l_nd h]
theorem s_drawn {s : Nat} (h : s < 2147483648) {σ : zSt} : f_X0_drawn Γ (lN s) σ = some (nI (dv s), σ) := by
  have := dv_lt (s := s)
  unfold f_X0_drawn
  rw [l_dv h, l_i (by omega)]
theorem s_draw (h : auS Γ R a cap) (hc : n ≤ cap) {s : Nat} (hs : s < 2147483648) : Mx (f_X0_draw Γ a (nI n) (nI s) (cS N R J)) (fun σ => ((), σ)) R J (fun N' => frA N N' a (a + 6) ∧ cAu N' a (drwA n s)) := by
  have hc24 := h.c24
  have hsq := h.sq'
  have hnn := sq_le hc
  have ha := h.a0
  have hd : ∀ k, ds s k < 2147483648 := fun k => ds_lt hs
  unfold f_X0_draw
  simp (disch := omega) only [c_bnd, c_chk, c_lb0, c_lb1, c_lb2, c_lb3, L0, L1, L2, L10007, nI_add, pk_mul, ile_t, ile_f, ilt_t, ilt_f, ieq_t, ieq_f, c_rmI, setF_at, setF_ne, setF_setF, true_and, up1_at, up1_ne, pk_sub, pk_cpy_in, pk_cpy_out, Nat.zero_add, Nat.add_zero, Nat.zero_mul, Nat.sub_zero, Nat.add_sub_cancel_left, c_gfI h.ob, c_pfI h.ob, c_gfR h.ob h.r1, c_gfR h.ob h.r2, c_gfR h.ob h.r3, c_ldI h.g1, c_ldI h.g2, c_stI h.g1, c_stI h.g2, c_chkO h.ob, i_l]
  refine mx_lb1 (mx_for1 (fun k => lN (ds s (2 * k))) (fun c N' => frA N N' a (a + 6) ∧ N' a 0 = n ∧ ∀ i, i < c → N' (a + 1) i = dv (ds s (2 * i + 1)) ∧ N' (a + 2) i = dv (ds s (2 * i + 2))) (s := 0) (e := n) (by omega) (by omega) ⟨frA.set (by omega) (by omega), ?_, fun i e => absurd e (by omega)⟩ ?_ ?_) ?_
  · simp (disch := omega) only [c_bnd, c_chk, c_lb0, c_lb1, c_lb2, c_lb3, L0, L1, L2, L10007, nI_add, pk_mul, ile_t, ile_f, ilt_t, ilt_f, ieq_t, ieq_f, c_rmI, setF_at, setF_ne, setF_setF, true_and, up1_at, up1_ne, pk_sub, pk_cpy_in, pk_cpy_out, Nat.zero_add, Nat.add_zero, Nat.zero_mul, Nat.sub_zero, Nat.add_sub_cancel_left]
  · intro c N1 _ hcc ⟨p1, p2, p3⟩
    have e1 : nd (ds s (2 * c)) = ds s (2 * c + 1) := rfl
    have e2 : nd (ds s (2 * c + 1)) = ds s (2 * c + 2) := rfl
    show Mx (f_X0_draw_B11 _ _ _ _ _ _) _ _ _ _
    unfold f_X0_draw_B11
    simp (disch := omega) only [c_bnd, c_chk, c_lb0, c_lb1, c_lb2, c_lb3, L0, L1, L2, L10007, nI_add, pk_mul, ile_t, ile_f, ilt_t, ilt_f, ieq_t, ieq_f, c_rmI, setF_at, setF_ne, setF_setF, true_and, up1_at, up1_ne, pk_sub, pk_cpy_in, pk_cpy_out, Nat.zero_add, Nat.add_zero, Nat.zero_mul, Nat.sub_zero, Nat.add_sub_cancel_left, c_gfI h.ob, c_pfI h.ob, c_gfR h.ob h.r1, c_gfR h.ob h.r2, c_gfR h.ob h.r3, c_ldI h.g1, c_ldI h.g2, c_stI h.g1, c_stI h.g2, c_chkO h.ob, s_nextDraw (hd (2 * c)), e1, s_nextDraw (hd (2 * c + 1)), e2, s_drawn (hd (2 * c + 1)), s_drawn (hd (2 * c + 2))]
    refine mx_eq rfl ?_
    refine ⟨p1.trans ((frA.set (by omega) (by omega)).trans (frA.set (by omega) (by omega))), ?_, fun i hi => ?_⟩
    · simp (disch := omega) only [c_bnd, c_chk, c_lb0, c_lb1, c_lb2, c_lb3, L0, L1, L2, L10007, nI_add, pk_mul, ile_t, ile_f, ilt_t, ilt_f, ieq_t, ieq_f, c_rmI, setF_at, setF_ne, setF_setF, true_and, up1_at, up1_ne, pk_sub, pk_cpy_in, pk_cpy_out, Nat.zero_add, Nat.add_zero, Nat.zero_mul, Nat.sub_zero, Nat.add_sub_cancel_left, p2]
    · by_cases e : i = c
      · subst e
        simp (disch := omega) only [c_bnd, c_chk, c_lb0, c_lb1, c_lb2, c_lb3, L0, L1, L2, L10007, nI_add, pk_mul, ile_t, ile_f, ilt_t, ilt_f, ieq_t, ieq_f, c_rmI, setF_at, setF_ne, setF_setF, true_and, up1_at, up1_ne, pk_sub, pk_cpy_in, pk_cpy_out, Nat.zero_add, Nat.add_zero, Nat.zero_mul, Nat.sub_zero, Nat.add_sub_cancel_left]
      · simp (disch := omega) only [c_bnd, c_chk, c_lb0, c_lb1, c_lb2, c_lb3, L0, L1, L2, L10007, nI_add, pk_mul, ile_t, ile_f, ilt_t, ilt_f, ieq_t, ieq_f, c_rmI, setF_at, setF_ne, setF_setF, true_and, up1_at, up1_ne, pk_sub, pk_cpy_in, pk_cpy_out, Nat.zero_add, Nat.add_zero, Nat.zero_mul, Nat.sub_zero, Nat.add_sub_cancel_left]
        exact p3 i (by omega)
  · intro N1 _
    show f_X0_draw_B11 _ _ _ _ _ _ = _
    unfold f_X0_draw_B11
    simp (disch := omega) only [c_bnd, c_chk, c_lb0, c_lb1, c_lb2, c_lb3, L0, L1, L2, L10007, nI_add, pk_mul, ile_t, ile_f, ilt_t, ilt_f, ieq_t, ieq_f, c_rmI, setF_at, setF_ne, setF_setF, true_and, up1_at, up1_ne, pk_sub, pk_cpy_in, pk_cpy_out, Nat.zero_add, Nat.add_zero, Nat.zero_mul, Nat.sub_zero, Nat.add_sub_cancel_left]
  · intro N1 ⟨p1, p2, p3⟩
    refine mx_lb0 (P := fun N' => frA N N' a (a + 6) ∧ N' a 0 = n ∧ (∀ i, i < n → N' (a + 1) i = dv (ds s (2 * i + 1)) ∧ N' (a + 2) i = dv (ds s (2 * i + 2))) ∧ ∀ l z, l < 2 → z < n * n → N' (a + 4 + l) z = dv (ds s (2 * n + l * (n * n) + z + 1))) ?_ ?_
    · let q : Nat → Mem → Prop := fun l N' => frA N N' a (a + 6) ∧ N' a 0 = n ∧ (∀ i, i < n → N' (a + 1) i = dv (ds s (2 * i + 1)) ∧ N' (a + 2) i = dv (ds s (2 * i + 2))) ∧ ∀ l' z, l' < l → z < n * n → N' (a + 4 + l') z = dv (ds s (2 * n + l' * (n * n) + z + 1))
      suffices hh : ∃ b, loopM (fun q => f_X0_draw_B58 Γ a (nI n) q.1 q.2.1 q.2.2) FUEL (lN (ds s (2 * n)), nI 0, cS N1 R J) = some b ∧ ∃ N', b = cS N' R J ∧ q 2 N' by
        obtain ⟨b, e1, N', e2, h⟩ := hh
        subst e2
        exact ⟨N', e1, h⟩
      refine loopM_q (fun l st => ∃ N', st = (lN (ds s (2 * n + l * (n * n))), nI l, cS N' R J) ∧ q l N') (fun b => ∃ N', b = cS N' R J ∧ q 2 N') 2 0 FUEL _ ⟨N1, by rw [Nat.zero_mul, Nat.add_zero], p1, p2, p3, fun l' z e => absurd e (by omega)⟩ (by unfold FUEL; omega) ?_ ?_
      · intro l st _ hl ⟨N2, e, r1, r2, r3, r4⟩
        subst e
        have hl' : l < 2 := by omega
        have hg : Mx (f_X0_draw_B58 Γ a (nI n) (lN (ds s (2 * n + l * (n * n)))) (nI l) (cS N2 R J)) (fun σ => .inl (lN (ds s (2 * n + (l + 1) * (n * n))), nI (l + 1), σ)) R J (q (l + 1)) := by
          unfold f_X0_draw_B58
          simp (disch := omega) only [c_bnd, c_chk, c_lb0, c_lb1, c_lb2, c_lb3, L0, L1, L2, L10007, nI_add, pk_mul, ile_t, ile_f, ilt_t, ilt_f, ieq_t, ieq_f, c_rmI, setF_at, setF_ne, setF_setF, true_and, up1_at, up1_ne, pk_sub, pk_cpy_in, pk_cpy_out, Nat.zero_add, Nat.add_zero, Nat.zero_mul, Nat.sub_zero, Nat.add_sub_cancel_left]
          refine mx_lb1 (mx_for1 (fun k => lN (ds s (2 * n + l * (n * n) + k))) (fun c N' => frA N N' a (a + 6) ∧ N' a 0 = n ∧ (∀ i, i < n → N' (a + 1) i = dv (ds s (2 * i + 1)) ∧ N' (a + 2) i = dv (ds s (2 * i + 2))) ∧ ∀ l' z, l' < 2 → z < n * n → (l' < l ∨ l' = l ∧ z < c) → N' (a + 4 + l') z = dv (ds s (2 * n + l' * (n * n) + z + 1))) (s := 0) (e := n * n) (by omega) (by omega) ⟨r1, r2, r3, fun l' z f1 f2 f3 => r4 l' z (by omega) f2⟩ ?_ ?_) ?_
          · intro c N3 _ hcc ⟨t1, t2, t3, t4⟩
            have e1 : nd (ds s (2 * n + l * (n * n) + c)) = ds s (2 * n + l * (n * n) + c + 1) := rfl
            show Mx (f_X0_draw_B67 _ _ _ _ _ _ _) _ _ _ _
            unfold f_X0_draw_B67
            simp (disch := omega) only [c_bnd, c_chk, c_lb0, c_lb1, c_lb2, c_lb3, L0, L1, L2, L10007, nI_add, pk_mul, ile_t, ile_f, ilt_t, ilt_f, ieq_t, ieq_f, c_rmI, setF_at, setF_ne, setF_setF, true_and, up1_at, up1_ne, pk_sub, pk_cpy_in, pk_cpy_out, Nat.zero_add, Nat.add_zero, Nat.zero_mul, Nat.sub_zero, Nat.add_sub_cancel_left, c_gfI h.ob, c_pfI h.ob, c_gfR h.ob h.r1, c_gfR h.ob h.r2, c_gfR h.ob h.r3, c_ldI h.g1, c_ldI h.g2, c_stI h.g1, c_stI h.g2, c_chkO h.ob, c_ldG h.g3 (h.rl hl'), c_ldI (h.gl hl'), c_stI (h.gl hl'), s_nextDraw (hd (2 * n + l * (n * n) + c)), e1, s_drawn (hd (2 * n + l * (n * n) + c + 1))]
            refine mx_eq rfl ?_
            refine ⟨t1.trans (frA.set (by omega) (by omega)), ?_, fun i hi => ?_, fun l' z f1 f2 f3 => ?_⟩
            · simp (disch := omega) only [c_bnd, c_chk, c_lb0, c_lb1, c_lb2, c_lb3, L0, L1, L2, L10007, nI_add, pk_mul, ile_t, ile_f, ilt_t, ilt_f, ieq_t, ieq_f, c_rmI, setF_at, setF_ne, setF_setF, true_and, up1_at, up1_ne, pk_sub, pk_cpy_in, pk_cpy_out, Nat.zero_add, Nat.add_zero, Nat.zero_mul, Nat.sub_zero, Nat.add_sub_cancel_left, t2]
            · simp (disch := omega) only [c_bnd, c_chk, c_lb0, c_lb1, c_lb2, c_lb3, L0, L1, L2, L10007, nI_add, pk_mul, ile_t, ile_f, ilt_t, ilt_f, ieq_t, ieq_f, c_rmI, setF_at, setF_ne, setF_setF, true_and, up1_at, up1_ne, pk_sub, pk_cpy_in, pk_cpy_out, Nat.zero_add, Nat.add_zero, Nat.zero_mul, Nat.sub_zero, Nat.add_sub_cancel_left]
              exact t3 i hi
            · by_cases e : l' = l
              · subst e
                simp (disch := omega) only [c_bnd, c_chk, c_lb0, c_lb1, c_lb2, c_lb3, L0, L1, L2, L10007, nI_add, pk_mul, ile_t, ile_f, ilt_t, ilt_f, ieq_t, ieq_f, c_rmI, setF_at, setF_ne, setF_setF, true_and, up1_at, up1_ne, pk_sub, pk_cpy_in, pk_cpy_out, Nat.zero_add, Nat.add_zero, Nat.zero_mul, Nat.sub_zero, Nat.add_sub_cancel_left]
                by_cases e5 : z = c
                · subst e5
                  simp (disch := omega) only [c_bnd, c_chk, c_lb0, c_lb1, c_lb2, c_lb3, L0, L1, L2, L10007, nI_add, pk_mul, ile_t, ile_f, ilt_t, ilt_f, ieq_t, ieq_f, c_rmI, setF_at, setF_ne, setF_setF, true_and, up1_at, up1_ne, pk_sub, pk_cpy_in, pk_cpy_out, Nat.zero_add, Nat.add_zero, Nat.zero_mul, Nat.sub_zero, Nat.add_sub_cancel_left]
                · simp (disch := omega) only [c_bnd, c_chk, c_lb0, c_lb1, c_lb2, c_lb3, L0, L1, L2, L10007, nI_add, pk_mul, ile_t, ile_f, ilt_t, ilt_f, ieq_t, ieq_f, c_rmI, setF_at, setF_ne, setF_setF, true_and, up1_at, up1_ne, pk_sub, pk_cpy_in, pk_cpy_out, Nat.zero_add, Nat.add_zero, Nat.zero_mul, Nat.sub_zero, Nat.add_sub_cancel_left]
                  exact t4 l' z f1 f2 (by omega)
              · simp (disch := omega) only [c_bnd, c_chk, c_lb0, c_lb1, c_lb2, c_lb3, L0, L1, L2, L10007, nI_add, pk_mul, ile_t, ile_f, ilt_t, ilt_f, ieq_t, ieq_f, c_rmI, setF_at, setF_ne, setF_setF, true_and, up1_at, up1_ne, pk_sub, pk_cpy_in, pk_cpy_out, Nat.zero_add, Nat.add_zero, Nat.zero_mul, Nat.sub_zero, Nat.add_sub_cancel_left]
                exact t4 l' z f1 f2 (by omega)
          · intro N3 _
            show f_X0_draw_B67 _ _ _ _ _ _ _ = _
            unfold f_X0_draw_B67
            simp (disch := omega) only [c_bnd, c_chk, c_lb0, c_lb1, c_lb2, c_lb3, L0, L1, L2, L10007, nI_add, pk_mul, ile_t, ile_f, ilt_t, ilt_f, ieq_t, ieq_f, c_rmI, setF_at, setF_ne, setF_setF, true_and, up1_at, up1_ne, pk_sub, pk_cpy_in, pk_cpy_out, Nat.zero_add, Nat.add_zero, Nat.zero_mul, Nat.sub_zero, Nat.add_sub_cancel_left]
          · intro N3 ⟨t1, t2, t3, t4⟩
            refine mx_eq (N := N3) ?_ ?_
            · show _ = some (Sum.inl (lN (ds s (2 * n + (l + 1) * (n * n))), _, _))
              rw [show 2 * n + (l + 1) * (n * n) = 2 * n + l * (n * n) + n * n by rw [Nat.add_mul]; omega]
            · exact ⟨t1, t2, t3, fun l' z f1 f2 => t4 l' z (by omega) f2 (by omega)⟩
        obtain ⟨N', e1, e2⟩ := hg
        exact ⟨_, e1, N', rfl, e2⟩
      · intro st ⟨N2, e, r⟩
        subst e
        refine ⟨cS N2 R J, ?_, N2, rfl, r⟩
        show f_X0_draw_B58 _ _ _ _ _ _ = _
        unfold f_X0_draw_B58
        simp (disch := omega) only [c_bnd, c_chk, c_lb0, c_lb1, c_lb2, c_lb3, L0, L1, L2, L10007, nI_add, pk_mul, ile_t, ile_f, ilt_t, ilt_f, ieq_t, ieq_f, c_rmI, setF_at, setF_ne, setF_setF, true_and, up1_at, up1_ne, pk_sub, pk_cpy_in, pk_cpy_out, Nat.zero_add, Nat.add_zero, Nat.zero_mul, Nat.sub_zero, Nat.add_sub_cancel_left]
    · intro N2 ⟨r1, r2, r3, r4⟩
      refine mx_eq rfl ?_
      exact ⟨r1, r2, fun i hi => ⟨(r3 i hi).1, (r3 i hi).2, fun j l hj hl => r4 l _ hl (ix_lt' hi hj)⟩⟩
theorem s_hasStar (h : auS Γ R a cap) (hA : cAu N a A) (hc : A.1 ≤ cap) (ok : okA A) : f_X0_hasStar Γ a (cS N R J) = some (nI (if A.1 < 12 ∧ wtA A A.2.1 = 0 then 1 else 0), cS N R J) := by
  have hc24 := h.c24
  have e0 := hA.1
  have e1 := wtA_lt (A := A) (v := A.2.1)
  unfold f_X0_hasStar
  rw [L12]
  by_cases e : A.1 < 12
  · by_cases e2 : wtA A A.2.1 = 0
    · simp (disch := omega) only [c_bnd, c_chk, c_lb0, c_lb1, c_lb2, c_lb3, L0, L1, L2, L10007, nI_add, pk_mul, ile_t, ile_f, ilt_t, ilt_f, ieq_t, ieq_f, c_rmI, setF_at, setF_ne, setF_setF, true_and, up1_at, up1_ne, pk_sub, pk_cpy_in, pk_cpy_out, Nat.zero_add, Nat.add_zero, Nat.zero_mul, Nat.sub_zero, Nat.add_sub_cancel_left, c_gfI h.ob, c_pfI h.ob, c_gfR h.ob h.r1, c_gfR h.ob h.r2, c_gfR h.ob h.r3, c_ldI h.g1, c_ldI h.g2, c_stI h.g1, c_stI h.g2, c_chkO h.ob, e0, s_empty h hA hc ok, if_pos (And.intro e e2)]
      rfl
    · rw [if_neg (fun q => e2 q.2)]
      simp (disch := omega) only [c_bnd, c_chk, c_lb0, c_lb1, c_lb2, c_lb3, L0, L1, L2, L10007, nI_add, pk_mul, ile_t, ile_f, ilt_t, ilt_f, ieq_t, ieq_f, c_rmI, setF_at, setF_ne, setF_setF, true_and, up1_at, up1_ne, pk_sub, pk_cpy_in, pk_cpy_out, Nat.zero_add, Nat.add_zero, Nat.zero_mul, Nat.sub_zero, Nat.add_sub_cancel_left, c_gfI h.ob, c_pfI h.ob, c_gfR h.ob h.r1, c_gfR h.ob h.r2, c_gfR h.ob h.r3, c_ldI h.g1, c_ldI h.g2, c_stI h.g1, c_stI h.g2, c_chkO h.ob, e0, s_empty h hA hc ok]
      rfl
  · rw [if_neg (fun q => e q.1)]
    simp (disch := omega) only [c_bnd, c_chk, c_lb0, c_lb1, c_lb2, c_lb3, L0, L1, L2, L10007, nI_add, pk_mul, ile_t, ile_f, ilt_t, ilt_f, ieq_t, ieq_f, c_rmI, setF_at, setF_ne, setF_setF, true_and, up1_at, up1_ne, pk_sub, pk_cpy_in, pk_cpy_out, Nat.zero_add, Nat.add_zero, Nat.zero_mul, Nat.sub_zero, Nat.add_sub_cancel_left, c_gfI h.ob, c_pfI h.ob, c_gfR h.ob h.r1, c_gfR h.ob h.r2, c_gfR h.ob h.r3, c_ldI h.g1, c_ldI h.g2, c_stI h.g1, c_stI h.g2, c_chkO h.ob, e0]
    rfl
end CG
