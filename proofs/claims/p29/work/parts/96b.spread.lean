/-! ===== the law: x (y + z) and x y + x z ===== -/
section LSP
variable {Γ : zSh} {N R : Mem} {J : Nat → Nat → Int64} {o k : Nat} {S T : tS} {X Y Z P Q : Au}
/-- twelve sums and weights alike -/
theorem law_spL (h : PI Γ N R o S T) (hP : tq S 3 = P) (hQ : tq T 3 = Q) (he : sEq P Q) : OkG (loopM (fun q => f_L_isSpread_B101 Γ o (o + 373) q.1 q.2.1 q.2.2) 13 (nI 1, nI 0, cS N R J)) (fun b => ∃ N' R', b = (nI 1, cS N' R' J) ∧ PI Γ N' R' o S T) := by
  refine okg_loop (fun i s => ∃ N' R', s = (nI 1, nI i, cS N' R' J) ∧ PI Γ N' R' o S T) _ 12 13 _ ⟨N, R, rfl, h⟩ (by omega) ?_
  intro i s hi ⟨N1, R1, e, h1⟩
  subst e
  refine ⟨fun hlt => ?_, fun heq => ?_⟩
  · show OkG (f_L_isSpread_B101 Γ o (o + 373) (nI 1) (nI i) (cS N1 R1 J)) _
    unfold f_L_isSpread_B101
    simp only [L0, L1, L3, L7, L12]
    rw [ile_f hlt (by omega), eq0_f]
    refine go_o h1 (c_total h1.1 h1.2.1) (v_tot (x := 3) (k := i) (by omega) (by omega) hP) (fun N2 R2 h2 => ?_)
    refine go_p h2 (c_total h2.2.2.1 h2.2.2.2) (v_tot (x := 3) (k := i) (by omega) (by omega) hQ) (fun N3 R3 h3 => ?_)
    rw [if_pos (by rw [he.tot]), pk_mul, nI_add]
    refine go_o h3 (c_weight h3.1 h3.2.1) (v_wt (x := 3) (k := 7 * i + 3) (by omega) (by omega) hP) (fun N4 R4 h4 => ?_)
    refine go_p h4 (c_weight h4.2.2.1 h4.2.2.2) (v_wt (x := 3) (k := 7 * i + 3) (by omega) (by omega) hQ) (fun N5 R5 h5 => ?_)
    rw [if_pos (by rw [he.wt])]
    unfold f_L_isSpread_B101_L161
    rw [L1, nI_add]
    exact okg_i ⟨_, rfl, N5, R5, rfl, h5⟩
  · subst heq
    show OkG (f_L_isSpread_B101 Γ o (o + 373) (nI 1) (nI 12) (cS N1 R1 J)) _
    unfold f_L_isSpread_B101
    rw [L12, ile_t (Nat.le_refl 12) (by omega)]
    exact okg_i ⟨_, rfl, N1, R1, rfl, h1⟩
theorem law_spread (h : PI Γ N R o S T) (hk : k = 1 ∨ k = 2) (hX : tq S 0 = X) (hY : tq S 1 = Y) (hZ : tq S 2 = Z) (tX : tq T 0 = X) (tY : tq T 1 = Y) (tZ : tq T 2 = Z) (sX : X.1 ≤ 2) (sY : Y.1 ≤ 2) (sZ : Z.1 ≤ 2) : OkG (f_L_isSpread Γ o (o + 373) (nI k) (cS N R J)) (fun b => ∃ N' R' S' T', b = (nI 1, cS N' R' J) ∧ PI Γ N' R' o S' T' ∧ (∀ q, tq S' q = tq S q) ∧ ∀ q, tq T' q = tq T q) := by
  have hk3 : k < 3 := by omega
  have c4 : S.1.1 ≤ 4 := h.2.1.1.1
  have d4 : T.1.1 ≤ 4 := h.2.2.2.1.1
  have n1 : (comA Y Z 0).1 ≤ 4 := com_le (by omega) sY sZ (Nat.le_refl 2)
  have n2 : (comA X (comA Y Z 0) k).1 ≤ 8 := com_le hk3 sX n1 (by omega)
  have m1 : (comA X Z k).1 ≤ 4 := com_le hk3 sX sZ (Nat.le_refl 2)
  have m2 : (comA X Y k).1 ≤ 4 := com_le hk3 sX sY (Nat.le_refl 2)
  have m3 : (comA (comA X Y k) (comA X Z k) 0).1 ≤ 8 := by
    show (comA X Y k).1 + (comA X Z k).1 ≤ 8
    omega
  have he : sEq (comA X (comA Y Z 0) k) (comA (comA X Y k) (comA X Z k) 0) := com_sum hk
  unfold f_L_isSpread
  simp only [L0, L1, L2, L3]
  refine go_o h (c_combine h.1 h.2.1) (v_comb (t := 3) (x := 1) (y := 2) (k := 0) (by omega) (by omega) (by omega) (by omega) hY hZ (by omega)) (fun N1 R1 h1 => ?_)
  rw [lt0_f (by omega)]
  refine go_o h1 (c_combine h1.1 h1.2.1) (v_comb (t := 3) (x := 0) (y := 3) (by omega) (by omega) (by omega) hk3 ((tq_o (by omega)).trans hX) tq_t (by omega)) (fun N2 R2 h2 => ?_)
  rw [lt0_f (by omega)]
  unfold f_L_isSpread_L27
  simp only [L0, L1, L2, L3]
  rw [eq0_f]
  refine go_o h2 (c_dim h2.1 h2.2.1) (v_dim (x := 3) (k := 2) (by omega) (by omega) tq_t) (fun N3 R3 h3 => ?_)
  unfold f_L_isSpread_L42
  simp only [L0, L1, L2, L3]
  rw [eq0_f]
  refine go_p h3 (c_combine h3.2.2.1 h3.2.2.2) (v_comb (t := 3) (x := 0) (y := 2) (by omega) (by omega) (by omega) hk3 tX tZ (by omega)) (fun N4 R4 h4 => ?_)
  rw [lt0_f (by omega)]
  refine go_p h4 (c_combine h4.2.2.1 h4.2.2.2) (v_comb (t := 2) (x := 0) (y := 1) (by omega) (by omega) (by omega) hk3 ((tq_o (by omega)).trans tX) ((tq_o (by omega)).trans tY) (by omega)) (fun N5 R5 h5 => ?_)
  rw [lt0_f (by omega)]
  refine go_p h5 (c_combine h5.2.2.1 h5.2.2.2) (v_comb (t := 3) (x := 2) (y := 3) (k := 0) (by omega) (by omega) (by omega) (by omega) tq_t ((tq_o (by omega)).trans tq_t) (by omega)) (fun N6 R6 h6 => ?_)
  rw [lt0_f (by omega)]
  have okP := (h6.ok (q := 3) (by omega)).1
  have okQ := (h6.okT (q := 3) (by omega)).1
  rw [tq_t] at okP okQ
  refine go_p h6 (c_dim h6.2.2.1 h6.2.2.2) (v_dim (x := 3) (k := 2) (by omega) (by omega) tq_t) (fun N7 R7 h7 => ?_)
  have hdim : dimV (comA (comA X Y k) (comA X Z k) 0) 2 = dimV (comA X (comA Y Z 0) k) 2 := min_n okQ (by omega) okP (by omega) he.sm
  rw [if_pos (by rw [hdim])]
  unfold f_L_isSpread_L97
  simp only [L0, L1, L2, L3, L7]
  refine okg_lb1 (law_spL h7 tq_t tq_t he) (fun a σ ⟨N8, R8, e8, h8⟩ => ?_)
  cases e8
  rw [eq0_f]
  refine go_o h8 (c_first h8.1 h8.2.1) (v_first (x := 3) (by omega) tq_t) (fun N9 R9 h9 => ?_)
  refine go_p h9 (c_first h9.2.2.1 h9.2.2.2) (v_first (x := 3) (by omega) tq_t) (fun Na Ra ha => ?_)
  rw [if_pos (fW_eq okP (by omega) okQ (by omega) he)]
  refine go_o ha (c_hankel ha.1 ha.2.1) (v_hank (x := 3) (h := 7) (by omega) (by omega) tq_t) (fun Nb Rb hb => ?_)
  refine go_p hb (c_hankel hb.2.2.1 hb.2.2.2) (v_hank (x := 3) (h := 7) (by omega) (by omega) tq_t) (fun Nc Rc hc => ?_)
  rw [if_pos (by rw [he.hk])]
  -- taken back
  have u1 : 1 ≤ (tsv S 3 (comA Y Z 0)).1.1 := cn_up c4 (Nat.zero_le _) (by omega)
  have u4 : (tsv S 3 (comA Y Z 0)).1.1 ≤ 4 := cn_le c4
  have u2 : 2 ≤ (tsv (tsv S 3 (comA Y Z 0)) 3 (comA X (comA Y Z 0) k)).1.1 := cn_up u4 u1 (by omega)
  have u5 : (tsv (tsv S 3 (comA Y Z 0)) 3 (comA X (comA Y Z 0) k)).1.1 ≤ 4 := cn_le u4
  have w1 : 1 ≤ (tsv T 3 (comA X Z k)).1.1 := cn_up d4 (Nat.zero_le _) (by omega)
  have w4 : (tsv T 3 (comA X Z k)).1.1 ≤ 4 := cn_le d4
  have w2 : 2 ≤ (tsv (tsv T 3 (comA X Z k)) 2 (comA X Y k)).1.1 := cn_up w4 w1 (by omega)
  have w5 : (tsv (tsv T 3 (comA X Z k)) 2 (comA X Y k)).1.1 ≤ 4 := cn_le w4
  have w3 : 3 ≤ (tsv (tsv (tsv T 3 (comA X Z k)) 2 (comA X Y k)) 3 (comA (comA X Y k) (comA X Z k) 0)).1.1 := cn_up w5 w2 (by omega)
  have w6 : (tsv (tsv (tsv T 3 (comA X Z k)) 2 (comA X Y k)) 3 (comA (comA X Y k) (comA X Z k) 0)).1.1 ≤ 4 := cn_le w5
  refine go_o hc (c_undo hc.1 hc.2.1) (v_undo (by omega)) (fun Nd Rd hd => ?_)
  rw [lt0_f (by omega)]
  refine go_o hd (c_undo hd.1 hd.2.1) (v_undo (by rw [cn_u]; omega)) (fun Ne Re he' => ?_)
  rw [lt0_f (by rw [cn_u]; omega)]
  refine go_p he' (c_undo he'.2.2.1 he'.2.2.2) (v_undo (by omega)) (fun Nf Rf hf => ?_)
  rw [lt0_f (by omega)]
  refine go_p hf (c_undo hf.2.2.1 hf.2.2.2) (v_undo (by rw [cn_u]; omega)) (fun Ng Rg hg => ?_)
  rw [lt0_f (by rw [cn_u]; omega)]
  refine go_p hg (c_undo hg.2.2.1 hg.2.2.2) (v_undo (by rw [cn_u, cn_u]; omega)) (fun Nh Rh hh => ?_)
  rw [lt0_f (by rw [cn_u, cn_u]; omega)]
  unfold f_L_isSpread_L242
  rw [c_b1]
  refine okg_i ⟨Nh, Rh, _, _, rfl, hh, fun q => ?_, fun q => ?_⟩
  · rw [← tv_0, tv_u, tv_u, tv_s u4 (by omega), tv_s c4 (by omega), tv_0]
  · rw [← tv_0, tv_u, tv_u, tv_u, tv_s w5 (by omega), tv_s w4 (by omega), tv_s d4 (by omega), tv_0]
end LSP
