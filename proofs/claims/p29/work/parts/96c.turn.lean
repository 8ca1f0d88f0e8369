/-! ===== the law: turning; minimizing, reducing ===== -/
section LTN
variable {Γ : zSh} {N R : Mem} {J : Nat → Nat → Int64} {o k : Nat} {S T : tS} {X Y Z P Q : Au}
theorem law_turn1 (h : PI Γ N R o S T) (hk : k < 2) (hX : tq S 0 = X) (hY : tq S 1 = Y) (sX : X.1 ≤ 2) (sY : Y.1 ≤ 2) : OkG (f_L_isTurned_B4 Γ o (nI 1) (nI k) (cS N R J)) (fun b => ∃ N' R' S', b = .inl (nI 1, nI (k + 1), cS N' R' J) ∧ PI Γ N' R' o S' T ∧ tq S' 0 = X ∧ tq S' 1 = Y) := by
  have hk3 : k < 3 := by omega
  have n1 : (comA X Y k).1 ≤ 4 := com_le hk3 sX sY (Nat.le_refl 2)
  have n2 : (comA Y X k).1 ≤ 4 := com_le hk3 sY sX (Nat.le_refl 2)
  have n3 : (comA (revA X) (revA Y) k).1 ≤ 4 := com_le (X := revA X) (Y := revA Y) hk3 sX sY (Nat.le_refl 2)
  unfold f_L_isTurned_B4
  simp only [L0, L1, L2, L3]
  rw [ile_f hk (by omega), eq0_f]
  refine go_o h (c_combine h.1 h.2.1) (v_comb (t := 2) (x := 0) (y := 1) (by omega) (by omega) (by omega) hk3 hX hY (by omega)) (fun N1 R1 h1 => ?_)
  rw [lt0_f (by omega)]
  refine go_o h1 (c_combine h1.1 h1.2.1) (v_comb (t := 3) (x := 1) (y := 0) (by omega) (by omega) (by omega) hk3 ((tq_o (by omega)).trans hY) ((tq_o (by omega)).trans hX) (by omega)) (fun N2 R2 h2 => ?_)
  refine go_o h2 (c_states h2.1 h2.2.1) (v_states (x := 2) (by omega) ((tq_o (by omega)).trans tq_t)) (fun N3 R3 h3 => ?_)
  rw [if_pos (by rw [com_n hk])]
  have a2 := (h3.ok (q := 2) (by omega)).1
  have a3 := (h3.ok (q := 3) (by omega)).1
  rw [tq_t] at a3
  rw [tq_o (by omega), tq_t] at a2
  refine go_o h3 (c_diff h3.1 h3.2.1) (v_diff (x := 2) (y := 3) (by omega) (by omega) ((tq_o (by omega)).trans tq_t) tq_t a2 a3 (by omega) (com_com hk)) (fun N4 R4 h4 => ?_)
  rw [if_pos (show (-1 : Int32) = -nI 1 from rfl)]
  unfold f_L_isTurned_B4_L55
  simp only [L0, L1, L2, L3]
  rw [eq0_f]
  refine go_o h4 (c_derive h4.1 h4.2.1) (v_der (t := 2) (x := 2) (k := 1) (by omega) (by omega) (by omega) (by omega) ((tq_o (by omega)).trans tq_t)) (fun N5 R5 h5 => ?_)
  rw [lt0_f (by show (comA X Y k).1 < _; omega)]
  refine go_o h5 (c_derive h5.1 h5.2.1) (v_der (t := 0) (x := 0) (k := 1) (by omega) (by omega) (by omega) (by omega) ((tq_o (by omega)).trans ((tq_o (by omega)).trans ((tq_o (by omega)).trans hX)))) (fun N6 R6 h6 => ?_)
  rw [lt0_f (by show X.1 < _; omega)]
  refine go_o h6 (c_derive h6.1 h6.2.1) (v_der (t := 1) (x := 1) (k := 1) (by omega) (by omega) (by omega) (by omega) ((tq_o (by omega)).trans ((tq_o (by omega)).trans ((tq_o (by omega)).trans ((tq_o (by omega)).trans hY))))) (fun N7 R7 h7 => ?_)
  rw [lt0_f (by show Y.1 < _; omega)]
  refine go_o h7 (c_combine h7.1 h7.2.1) (v_comb (X := revA X) (Y := revA Y) (t := 3) (x := 0) (y := 1) (by omega) (by omega) (by omega) hk3 ((tq_o (by omega)).trans tq_t) tq_t (by omega)) (fun N8 R8 h8 => ?_)
  rw [lt0_f (by omega)]
  have b2 := (h8.ok (q := 2) (by omega)).1
  have b3 := (h8.ok (q := 3) (by omega)).1
  rw [tq_t] at b3
  rw [tq_o (by omega), tq_o (by omega), tq_o (by omega), tq_t] at b2
  refine go_o h8 (c_diff h8.1 h8.2.1) (v_diff (X := revA (comA X Y k)) (x := 2) (y := 3) (by omega) (by omega) ((tq_o (by omega)).trans ((tq_o (by omega)).trans ((tq_o (by omega)).trans tq_t))) tq_t b2 b3 (by show (comA X Y k).1 + _ ≤ 24; omega) (com_rev hk)) (fun N9 R9 h9 => ?_)
  rw [if_pos (show (-1 : Int32) = -nI 1 from rfl)]
  unfold f_L_isTurned_B4_L116
  simp only [L0, L1, L2, L3]
  rw [eq0_f]
  refine go_o h9 (c_derive h9.1 h9.2.1) (v_der (X := revA X) (t := 0) (x := 0) (k := 1) (by omega) (by omega) (by omega) (by omega) ((tq_o (by omega)).trans ((tq_o (by omega)).trans tq_t))) (fun Na Ra ha => ?_)
  rw [lt0_f (by show X.1 < _; omega)]
  refine go_o ha (c_derive ha.1 ha.2.1) (v_der (X := revA Y) (t := 1) (x := 1) (k := 1) (by omega) (by omega) (by omega) (by omega) ((tq_o (by omega)).trans ((tq_o (by omega)).trans tq_t))) (fun Nb Rb hb => ?_)
  rw [lt0_f (by show Y.1 < _; omega)]
  unfold f_L_isTurned_B4_L146
  rw [L1, nI_add]
  exact okg_i ⟨Nb, Rb, _, rfl, hb, (tq_o (by omega)).trans tq_t, tq_t⟩
theorem law_turned (h : PI Γ N R o S T) (hX : tq S 0 = X) (hY : tq S 1 = Y) (sX : X.1 ≤ 2) (sY : Y.1 ≤ 2) : OkG (f_L_isTurned Γ o (cS N R J)) (fun b => ∃ N' R' S', b = (nI 1, cS N' R' J) ∧ PI Γ N' R' o S' T ∧ tq S' 0 = X ∧ tq S' 1 = Y) := by
  unfold f_L_isTurned
  refine okg_lb1 (P1 := fun b => ∃ N' R' S', b = (nI 1, cS N' R' J) ∧ PI Γ N' R' o S' T ∧ tq S' 0 = X ∧ tq S' 1 = Y) (okg_loop (fun i s => ∃ N' R' S', s = (nI 1, nI i, cS N' R' J) ∧ PI Γ N' R' o S' T ∧ tq S' 0 = X ∧ tq S' 1 = Y) _ 2 3 _ ⟨N, R, S, rfl, h, hX, hY⟩ (by omega) ?_) ?_
  · intro i s hi ⟨N1, R1, S1, e, h1, x1, y1⟩
    subst e
    refine ⟨fun hlt => ?_, fun heq => ?_⟩
    · obtain ⟨b, e2, N2, R2, S2, e3, h2, x2, y2⟩ := law_turn1 (J := J) h1 hlt x1 y1 sX sY
      exact ⟨b, e2, _, e3, N2, R2, S2, rfl, h2, x2, y2⟩
    · subst heq
      show OkG (f_L_isTurned_B4 Γ o (nI 1) (nI 2) (cS N1 R1 J)) _
      unfold f_L_isTurned_B4
      rw [L2, ile_t (Nat.le_refl 2) (by omega)]
      exact okg_i ⟨_, rfl, N1, R1, S1, rfl, h1, x1, y1⟩
  · intro a σ ⟨N1, R1, S1, e, h1, x1, y1⟩
    cases e
    rw [c_b1]
    exact okg_i ⟨N1, R1, S1, rfl, h1, x1, y1⟩
/-- words that ascend -/
theorem law_up (h : PI Γ N R o S T) (hk : k < 4) (hX : tq S k = X) (sX : X.1 ≤ 2) : OkG (f_L_goUp Γ o (nI k) (cS N R J)) (fun b => ∃ N' R', b = (nI 1, cS N' R' J) ∧ PI Γ N' R' o S T) := by
  have ok : okA X := by
    have := (h.ok hk).1
    rw [hX] at this
    exact this
  have hle := ex_le ok (by omega)
  have hU := (ex_at ok (by omega)).2.2.2
  unfold f_L_goUp
  simp only [L0, L1]
  refine go_o h (c_dim h.1 h.2.1) (v_dim (k := 0) hk (by omega) hX) (fun N1 R1 h1 => ?_)
  rw [show dimV X 0 = (expl X).1 from rfl]
  refine okg_lb1 (P1 := fun b => ∃ N' R', b = (nI 1, cS N' R' J) ∧ PI Γ N' R' o S T) (okg_loop (fun i s => ∃ N' R', s = (nI 1, nI (i + 1), cS N' R' J) ∧ PI Γ N' R' o S T) _ ((expl X).1 - 1) 14 _ ⟨N1, R1, rfl, h1⟩ (by omega) ?_) ?_
  · intro i s hi ⟨N2, R2, e, h2⟩
    subst e
    refine ⟨fun hlt => ?_, fun heq => ?_⟩
    · show OkG (f_L_goUp_B12 Γ o (nI k) (nI (expl X).1) (nI 1) (nI (i + 1)) (cS N2 R2 J)) _
      unfold f_L_goUp_B12
      simp only [L0, L1]
      rw [ile_f (by omega) (by omega), eq0_f]
      refine go_o h2 (c_basisW h2.1 h2.2.1) (v_basis (k := i + 1) hk hX (by omega) (by omega)) (fun N3 R3 h3 => ?_)
      rw [pk_sub (by omega), show i + 1 - 1 = i by omega]
      refine go_o h3 (c_basisW h3.1 h3.2.1) (v_basis (k := i) hk hX (by omega) (by omega)) (fun N4 R4 h4 => ?_)
      rw [ile_f (hU i (i + 1) (by omega) (by omega)) (by have := ex_b (A := X) (k := i + 1) (by omega) (by omega); omega)]
      unfold f_L_goUp_B12_L46
      rw [L1, nI_add]
      exact okg_i ⟨_, rfl, N4, R4, rfl, h4⟩
    · show OkG (f_L_goUp_B12 Γ o (nI k) (nI (expl X).1) (nI 1) (nI (i + 1)) (cS N2 R2 J)) _
      unfold f_L_goUp_B12
      rw [ile_t (by omega) (by omega)]
      exact okg_i ⟨_, rfl, N2, R2, rfl, h2⟩
  · intro a σ ⟨N2, R2, e, h2⟩
    cases e
    rw [c_b1]
    exact okg_i ⟨N2, R2, rfl, h2⟩
theorem law_red1 (h : PI Γ N R o S T) {i : Nat} (hi : i < 2) (hk : k < 2) (hX : tq S k = X) (sX : X.1 ≤ 2) : OkG (f_L_isReduced_B4 Γ o (nI k) (nI 1) (nI (5 + i)) (cS N R J)) (fun b => ∃ N' R' S', b = .inl (nI 1, nI (5 + (i + 1)), cS N' R' J) ∧ PI Γ N' R' o S' T ∧ (∀ q, q < 3 → tq S' q = tq S q) ∧ tq S' 3 = derA X (5 + i)) := by
  have ok : okA X := by
    have := (h.ok (q := k) (by omega)).1
    rw [hX] at this
    exact this
  have hD : okA (derA X (5 + i)) ∧ (derA X (5 + i)).1 ≤ X.1 ∧ sEq (derA X (5 + i)) X ∧ (expl (derA X (5 + i))).1 = (derA X (5 + i)).1 := by
    rcases (by omega : i = 0 ∨ i = 1) with rfl | rfl
    · exact ⟨redA_ok ok, redA_le ok, red_eq ok (by omega), red_n ok (by omega)⟩
    · exact ⟨minA_ok ok, minA_le ok, min_eq ok (by omega), min_x ok (by omega)⟩
  generalize hDe : derA X (5 + i) = D at hD
  obtain ⟨d1, d2, d3, d4⟩ := hD
  unfold f_L_isReduced_B4
  simp only [L0, L1, L2, L3, L7]
  rw [ile_f (by omega) (by omega), eq0_f]
  have hv := v_der (S := S) (t := 3) (x := k) (k := 5 + i) (by omega) (by omega) (by omega) (by omega) hX
  rw [hDe] at hv
  refine go_o h (c_derive h.1 h.2.1) hv (fun N1 R1 h1 => ?_)
  refine go_o h1 (c_diff h1.1 h1.2.1) (v_diff (x := k) (y := 3) (by omega) (by omega) ((tq_o (by omega)).trans hX) tq_t ok d1 (by omega) d3.sm) (fun N2 R2 h2 => ?_)
  rw [if_pos (show (-1 : Int32) = -nI 1 from rfl)]
  refine go_o h2 (c_states h2.1 h2.2.1) (v_states (x := k) (by omega) ((tq_o (by omega)).trans hX)) (fun N3 R3 h3 => ?_)
  rw [ilt_f d2 (by omega)]
  refine go_o h3 (c_dim h3.1 h3.2.1) (v_dim (x := 3) (k := 2) (by omega) (by omega) tq_t) (fun N4 R4 h4 => ?_)
  refine go_o h4 (c_dim h4.1 h4.2.1) (v_dim (x := k) (k := 2) (by omega) (by omega) ((tq_o (by omega)).trans hX)) (fun N5 R5 h5 => ?_)
  rw [if_pos (by rw [show dimV D 2 = dimV X 2 from min_n d1 (by omega) ok (by omega) d3])]
  refine go_o h5 (c_dim h5.1 h5.2.1) (v_dim (x := 3) (k := 0) (by omega) (by omega) tq_t) (fun N6 R6 h6 => ?_)
  rw [if_pos (by rw [show dimV D 0 = D.1 from d4])]
  unfold f_L_isReduced_B4_L74
  rw [L1, nI_add]
  exact okg_i ⟨N6, R6, _, rfl, h6, fun q hq => tq_o (by omega), tq_t⟩
theorem law_reduced (h : PI Γ N R o S T) (hk : k < 2) (hX : tq S k = X) (sX : X.1 ≤ 2) : OkG (f_L_isReduced Γ o (nI k) (cS N R J)) (fun b => ∃ N' R' S', b = (nI 1, cS N' R' J) ∧ PI Γ N' R' o S' T ∧ ∀ q, q < 2 → tq S' q = tq S q) := by
  have ok : okA X := by
    have := (h.ok (q := k) (by omega)).1
    rw [hX] at this
    exact this
  have l24 : X.1 ≤ 24 := by omega
  have okM := minA_ok ok
  have lM := minA_le ok
  unfold f_L_isReduced
  refine okg_lb1 (P1 := fun b => ∃ N' R' S', b = (nI 1, cS N' R' J) ∧ PI Γ N' R' o S' T ∧ (∀ q, q < 3 → tq S' q = tq S q) ∧ tq S' 3 = minA X) (okg_loop (fun i s => ∃ N' R' S', s = (nI 1, nI (5 + i), cS N' R' J) ∧ PI Γ N' R' o S' T ∧ (∀ q, q < 3 → tq S' q = tq S q) ∧ (i = 2 → tq S' 3 = minA X)) _ 2 3 _ ⟨N, R, S, rfl, h, fun _ _ => rfl, fun u => by omega⟩ (by omega) ?_) ?_
  · intro i s hi ⟨N1, R1, S1, e, h1, x1, y1⟩
    subst e
    refine ⟨fun hlt => ?_, fun heq => ?_⟩
    · obtain ⟨b, e2, N2, R2, S2, e3, h2, x2, y2⟩ := law_red1 (J := J) h1 hlt hk ((x1 k (by omega)).trans hX) sX
      refine ⟨b, e2, _, e3, N2, R2, S2, rfl, h2, fun q hq => (x2 q hq).trans (x1 q hq), fun u => ?_⟩
      rw [y2, show 5 + i = 6 by omega]
      rfl
    · subst heq
      show OkG (f_L_isReduced_B4 Γ o (nI k) (nI 1) (nI (5 + 2)) (cS N1 R1 J)) _
      unfold f_L_isReduced_B4
      rw [L7, ile_t (Nat.le_refl 7) (by omega)]
      exact okg_i ⟨_, rfl, N1, R1, S1, rfl, h1, x1, y1 rfl⟩
  · intro a σ ⟨N1, R1, S1, e, h1, x1, y1⟩
    cases e
    simp only [L0, L1, L2, L3]
    rw [eq0_f]
    refine go_o h1 (c_dim h1.1 h1.2.1) (v_dim (x := 3) (k := 2) (by omega) (by omega) y1) (fun N2 R2 h2 => ?_)
    refine go_o h2 (c_states h2.1 h2.2.1) (v_states (x := 3) (by omega) y1) (fun N3 R3 h3 => ?_)
    rw [if_pos (by rw [show dimV (minA X) 2 = (minA X).1 from min_n okM (by omega) ok l24 (min_eq ok l24)])]
    refine go_o h3 (c_derive h3.1 h3.2.1) (v_der (t := 2) (x := k) (k := 1) (by omega) (by omega) (by omega) (by omega) ((x1 k (by omega)).trans hX)) (fun N4 R4 h4 => ?_)
    rw [lt0_f (by show X.1 < _; omega)]
    refine go_o h4 (c_dim h4.1 h4.2.1) (v_dim (x := 2) (k := 2) (by omega) (by omega) tq_t) (fun N5 R5 h5 => ?_)
    refine go_o h5 (c_states h5.1 h5.2.1) (v_states (x := 3) (by omega) ((tq_o (by omega)).trans y1)) (fun N6 R6 h6 => ?_)
    rw [if_pos (by rw [show dimV (derA X 1) 2 = (minA X).1 from min_rev ok l24])]
    refine go_o h6 (c_derive h6.1 h6.2.1) (v_der (t := 2) (x := 2) (k := 1) (by omega) (by omega) (by omega) (by omega) tq_t) (fun N7 R7 h7 => ?_)
    rw [lt0_f (by show X.1 < _; omega)]
    have xk : tq (tsv (tsv S1 2 (derA X 1)) 2 (derA (derA X 1) 1)) k = X := (tq_o (by omega)).trans ((tq_o (by omega)).trans ((x1 k (by omega)).trans hX))
    refine go_o h7 (c_diff h7.1 h7.2.1) (v_diff (Y := X) (x := k) (y := 2) (by omega) (by omega) xk tq_t ok ok (by omega) sEq.rf) (fun N8 R8 h8 => ?_)
    rw [if_pos (show (-1 : Int32) = -nI 1 from rfl)]
    unfold f_L_isReduced_L148
    simp only [L0, L1]
    refine go_o h8 (c_states h8.1 h8.2.1) (v_states (x := k) (by omega) xk) (fun N9 R9 h9 => ?_)
    rw [eq0_f]
    have fin : ∀ Na Ra, PI Γ Na Ra o (tsv (tsv S1 2 (derA X 1)) 2 (derA (derA X 1) 1)) T → OkG (f_L_isReduced_L189 Γ o (nI k) (cS Na Ra J)) (fun b => ∃ N' R' S', b = (nI 1, cS N' R' J) ∧ PI Γ N' R' o S' T ∧ ∀ q, q < 2 → tq S' q = tq S q) := by
      intro Na Ra ha
      unfold f_L_isReduced_L189
      refine okg_bnd (law_up ha (by omega) xk sX) (fun a σ ⟨Nb, Rb, e, hb⟩ => ?_)
      cases e
      rw [L0, L1, eq0_f]
      unfold f_L_isReduced_L202
      rw [c_b1]
      exact okg_i ⟨Nb, Rb, _, rfl, hb, fun q hq => (tq_o (by omega)).trans ((tq_o (by omega)).trans (x1 q (by omega)))⟩
    by_cases e0 : X.1 = 0
    · rw [ieq_t e0]
      exact fin N9 R9 h9
    · rw [ieq_f e0 (by omega) (by omega)]
      refine go_o h9 (c_recurs h9.1 h9.2.1) (v_rec (x := k) (by omega) xk (by omega) sX (Nat.le_refl _) (by omega)) (fun Na Ra ha => ?_)
      rw [L1, eq0_f, L11, ilt_f (by omega) (by omega), nI_add]
      refine go_o ha (c_recurs ha.1 ha.2.1) (v_rec (x := k) (by omega) xk (by omega) sX (Nat.le_succ _) (by omega)) (fun Nb Rb hb => ?_)
      rw [L1, eq0_f]
      exact fin Nb Rb hb
end LTN
