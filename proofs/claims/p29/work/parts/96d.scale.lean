/-! ===== the law: factors ===== -/
section LSC
variable {Γ : zSh} {N R : Mem} {J : Nat → Nat → Int64} {o f w : Nat} {S T : tS} {X : Au}
/-- behind the factor: a series taken from itself -/
theorem law_sc2 (h : PI Γ N R o S T) (hX : tq S 0 = X) (ok : okA X) (sX : X.1 ≤ 2) (hw : w ≤ 5000) (hc : 1 ≤ S.1.1) : OkG (f_L_isScaled_L119 Γ o (nI w) (nI (wtA X (vW X X.2.1 (w + 1)))) (nI 1) (cS N R J)) (fun b => ∃ N' R' S', b = (nI 1, cS N' R' J) ∧ PI Γ N' R' o S' T ∧ S'.1.1 = 4) := by
  have c4 : S.1.1 ≤ 4 := h.2.1.1.1
  unfold f_L_isScaled_L119
  simp only [L0, L1, L2, L3, L10006]
  rw [eq0_f]
  refine go_o h (c_derive h.1 h.2.1) (v_der (t := 2) (x := 0) (k := 0) (by omega) (by omega) (by omega) (by omega) hX) (fun N1 R1 h1 => ?_)
  rw [lt0_f (by show X.1 < _; omega)]
  refine go_o h1 (c_scale h1.1 h1.2.1) (v_sca (X := X) (x := 2) (c := 10006) (by omega) (by omega) tq_t) (fun N2 R2 h2 => ?_)
  rw [lt0_f (Nat.lt_trans wtA_lt (by decide))]
  have x0 : tq (tsv (tsv S 2 (derA X 0)) 2 (scaA X 10006)) 0 = X := (tq_o (by omega)).trans ((tq_o (by omega)).trans hX)
  refine go_o h2 (c_combine h2.1 h2.2.1) (v_comb (t := 3) (x := 0) (y := 2) (k := 0) (by omega) (by omega) (by omega) (by omega) x0 tq_t (by show X.1 + X.1 ≤ 12; omega)) (fun N3 R3 h3 => ?_)
  rw [lt0_f (by show X.1 + X.1 < _; omega)]
  have okQ := (h3.ok (q := 3) (by omega)).1
  rw [tq_t] at okQ
  have lQ : (comA X (scaA X 10006) 0).1 ≤ 24 := by
    show X.1 + X.1 ≤ 24
    omega
  have wQ : ∀ u, ww (comA X (scaA X 10006) 0) u = 0 := sca_neg
  refine go_o h3 (c_first h3.1 h3.2.1) (v_first (x := 3) (by omega) tq_t) (fun N4 R4 h4 => ?_)
  rw [if_pos (show _ = -nI 1 from fW_none okQ lQ wQ)]
  refine go_o h4 (c_dim h4.1 h4.2.1) (v_dim (x := 3) (k := 2) (by omega) (by omega) tq_t) (fun N5 R5 h5 => ?_)
  rw [if_pos (by rw [show dimV (comA X (scaA X 10006) 0) 2 = 0 from min_zero okQ lQ wQ])]
  unfold f_L_isScaled_L181
  simp only [L0, L1]
  rw [eq0_f]
  refine go_o h5 (c_power h5.1 h5.2.1) (v_pow (x := 0) (k := w) (by omega) (by omega) ((tq_o (by omega)).trans x0)) (fun N6 R6 h6 => ?_)
  rw [if_pos rfl]
  unfold f_L_isScaled_L204
  rw [c_b1]
  have u2 : 2 ≤ (tsv S 2 (derA X 0)).1.1 := cn_up c4 hc (by omega)
  have v2 : (tsv S 2 (derA X 0)).1.1 ≤ 4 := cn_le c4
  have u3 : 3 ≤ (tsv (tsv S 2 (derA X 0)) 2 (scaA X 10006)).1.1 := cn_up v2 u2 (by omega)
  have v3 : (tsv (tsv S 2 (derA X 0)) 2 (scaA X 10006)).1.1 ≤ 4 := cn_le v2
  have u4 : 4 ≤ (tsv (tsv (tsv S 2 (derA X 0)) 2 (scaA X 10006)) 3 (comA X (scaA X 10006) 0)).1.1 := cn_up v3 u3 (by omega)
  have v4 : (tsv (tsv (tsv S 2 (derA X 0)) 2 (scaA X 10006)) 3 (comA X (scaA X 10006) 0)).1.1 ≤ 4 := cn_le v3
  exact okg_i ⟨N6, R6, _, rfl, h6, by omega⟩
theorem law_scaled (h : PI Γ N R o S T) (hX : tq S 0 = X) (sX : X.1 ≤ 2) (hf : f < 10007) (hw : w < 5000) : OkG (f_L_isScaled Γ o (nI f) (nI w) (cS N R J)) (fun b => ∃ N' R' S', b = (nI 1, cS N' R' J) ∧ PI Γ N' R' o S' T ∧ S'.1.1 = 4) := by
  have c4 : S.1.1 ≤ 4 := h.2.1.1.1
  have ok : okA X := by
    have := (h.ok (q := 0) (by omega)).1
    rw [hX] at this
    exact this
  unfold f_L_isScaled
  simp only [L0, L1, L2, L9]
  refine go_o h (c_weight h.1 h.2.1) (v_wt (x := 0) (k := w) (by omega) (by omega) hX) (fun N1 R1 h1 => ?_)
  refine go_o h1 (c_total h1.1 h1.2.1) (v_tot (x := 0) (k := 9) (by omega) (by omega) hX) (fun N2 R2 h2 => ?_)
  refine go_o h2 (c_derive h2.1 h2.2.1) (v_der (t := 2) (x := 0) (k := 0) (by omega) (by omega) (by omega) (by omega) hX) (fun N3 R3 h3 => ?_)
  rw [lt0_f (by show X.1 < _; omega)]
  refine go_o h3 (c_scale h3.1 h3.2.1) (v_sca (X := X) (x := 2) (c := f) (by omega) (by omega) tq_t) (fun N4 R4 h4 => ?_)
  rw [lt0_f (Nat.lt_trans wtA_lt (by decide))]
  refine go_o h4 (c_weight h4.1 h4.2.1) (v_wt (x := 2) (k := w) (by omega) (by omega) tq_t) (fun N5 R5 h5 => ?_)
  rw [l_mul wtA_lt hf, l_i (Nat.lt_trans (mlt _) (by decide)), if_pos (by rw [sca_wt])]
  refine go_o h5 (c_total h5.1 h5.2.1) (v_tot (x := 2) (k := 9) (by omega) (by omega) tq_t) (fun N6 R6 h6 => ?_)
  rw [l_mul wtA_lt hf, l_i (Nat.lt_trans (mlt _) (by decide)), if_pos (by rw [sca_tot])]
  have u1 : 1 ≤ (tsv S 2 (derA X 0)).1.1 := cn_up c4 (Nat.zero_le _) (by omega)
  have v1 : (tsv S 2 (derA X 0)).1.1 ≤ 4 := cn_le c4
  have u2 : 2 ≤ (tsv (tsv S 2 (derA X 0)) 2 (scaA X f)).1.1 := cn_up v1 u1 (by omega)
  have v2 : (tsv (tsv S 2 (derA X 0)) 2 (scaA X f)).1.1 ≤ 4 := cn_le v1
  have x0 : tq (tsv (tsv S 2 (derA X 0)) 2 (scaA X f)) 0 = X := (tq_o (by omega)).trans ((tq_o (by omega)).trans hX)
  unfold f_L_isScaled_L80
  simp only [L0, L1, L2]
  rw [eq0_f]
  by_cases e0 : f = 0
  · rw [ieq_t e0]
    unfold f_L_isScaled_L114
    rw [L1]
    exact law_sc2 h6 x0 ok sX (by omega) (by omega)
  · rw [ieq_f e0 (by omega) (by omega)]
    refine go_o h6 (c_inverse h6.1 h6.2.1) (v_inv (c := f) (by omega) (by omega)) (fun N7 R7 h7 => ?_)
    refine go_o h7 (c_scale h7.1 h7.2.1) (v_sca (x := 2) (c := rcp f) (by omega) (by have := rcp_lt (x := f); omega) tq_t) (fun N8 R8 h8 => ?_)
    rw [lt0_f (Nat.lt_trans wtA_lt (by decide))]
    have x1 : tq (tsv (tsv (tsv S 2 (derA X 0)) 2 (scaA X f)) 2 (scaA (scaA X f) (rcp f))) 0 = X := (tq_o (by omega)).trans x0
    have ok2 := (h8.ok (q := 2) (by omega)).1
    rw [tq_t] at ok2
    refine go_o h8 (c_diff h8.1 h8.2.1) (v_diff (x := 2) (y := 0) (by omega) (by omega) tq_t x1 ok2 ok (by show X.1 + X.1 ≤ 24; omega) (sca_inv (by omega) (by omega))) (fun N9 R9 h9 => ?_)
    rw [if_pos (show (-1 : Int32) = -nI 1 from rfl)]
    unfold f_L_isScaled_L114
    rw [L1]
    exact law_sc2 h9 x1 ok sX (by omega) (by have := cn_up (t := 2) (A := scaA (scaA X f) (rcp f)) v2 (Nat.zero_le _) (by omega); omega)
end LSC
