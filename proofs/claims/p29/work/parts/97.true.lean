/-! ===== the law answers true ===== -/
def dA (xs : Nat → Int32) (L q : Nat) : Au := drwA (uV (cV xs L (2 * q)) 3) (uV (cV xs L (2 * q + 1)) 1000000)
section LTR
variable {Γ : zSh} {N R : Mem} {J : Nat → Nat → Int64} {o b L k : Nat} {S T : tS} {xs : Nat → Int32}
theorem u_lt (v : Int32) {n : Nat} (h0 : 0 < n) (hn : n < 2147483648) : uV v n < n := (f_up (Γ := fun _ => none) (σ := cS (fun _ _ => 0) (fun _ _ => 0) (fun _ _ => 0)) v h0 hn).2
theorem dA_le {q : Nat} : (dA xs L q).1 ≤ 2 := by
  have := u_lt (cV xs L (2 * q)) (n := 3) (by omega) (by omega)
  show uV (cV xs L (2 * q)) 3 ≤ 2
  omega
theorem draw_o (h : PI Γ N R o S T) (hL : L ≤ 260) : OkG (f_L_draws xs L b Γ o b (cS N R J)) (fun r => ∃ N' R' S', r = (nI 1, cS N' R' J) ∧ PI Γ N' R' o S' T ∧ ∀ q, q < 3 → tq S' q = dA xs L q) := by
  unfold f_L_draws
  refine okg_lb1 (P1 := fun r => ∃ N' R' S', r = (nI 1, cS N' R' J) ∧ PI Γ N' R' o S' T ∧ ∀ q, q < 3 → tq S' q = dA xs L q) (okg_loop (fun i s => ∃ N' R' S', s = (nI 1, nI i, cS N' R' J) ∧ PI Γ N' R' o S' T ∧ ∀ q, q < i → tq S' q = dA xs L q) _ 3 4 _ ⟨N, R, S, rfl, h, fun q hq => absurd hq (Nat.not_lt_zero q)⟩ (by omega) ?_) ?_
  · intro i s hi ⟨N1, R1, S1, e, h1, x1⟩
    subst e
    refine ⟨fun hlt => ?_, fun heq => ?_⟩
    · obtain ⟨u1, u2⟩ := f_up (Γ := Γ) (σ := cS N1 R1 J) (cV xs L (2 * i)) (n := 3) (by omega) (by omega)
      obtain ⟨u3, u4⟩ := f_up (Γ := Γ) (σ := cS N1 R1 J) (cV xs L (2 * i + 1)) (n := 1000000) (by omega) (by omega)
      show OkG (f_L_draws_B4 xs L b Γ o b (nI 1) (nI i) (cS N1 R1 J)) _
      unfold f_L_draws_B4
      simp only [L0, L1, L2, L3, L1000000]
      rw [ile_f hlt (by omega), eq0_f, pk_mul, f_cell hL (by omega), c_bnd, u1, c_bnd, nI_add, f_cell hL (by omega), c_bnd, u3, c_bnd]
      refine go_o h1 (c_random h1.1 h1.2.1) (v_rand (x := i) (by omega) (by omega) (by omega)) (fun N2 R2 h2 => ?_)
      rw [lt0_f (Nat.lt_trans wtA_lt (by decide))]
      unfold f_L_draws_B4_L51
      rw [L1, nI_add]
      refine okg_i ⟨_, rfl, N2, R2, _, rfl, h2, fun q hq => ?_⟩
      by_cases e : q = i
      · rw [e, tq_t]
        rfl
      · rw [tq_o e]
        exact x1 q (by omega)
    · subst heq
      show OkG (f_L_draws_B4 xs L b Γ o b (nI 1) (nI 3) (cS N1 R1 J)) _
      unfold f_L_draws_B4
      rw [L3, ile_t (Nat.le_refl 3) (by omega)]
      exact okg_i ⟨_, rfl, N1, R1, S1, rfl, h1, x1⟩
  · intro a σ ⟨N1, R1, S1, e, h1, x1⟩
    cases e
    rw [c_b1]
    exact okg_i ⟨N1, R1, S1, rfl, h1, x1⟩
theorem draw_p (h : PI Γ N R o S T) (hL : L ≤ 260) : OkG (f_L_draws xs L b Γ (o + 373) b (cS N R J)) (fun r => ∃ N' R' T', r = (nI 1, cS N' R' J) ∧ PI Γ N' R' o S T' ∧ ∀ q, q < 3 → tq T' q = dA xs L q) := by
  unfold f_L_draws
  refine okg_lb1 (P1 := fun r => ∃ N' R' T', r = (nI 1, cS N' R' J) ∧ PI Γ N' R' o S T' ∧ ∀ q, q < 3 → tq T' q = dA xs L q) (okg_loop (fun i s => ∃ N' R' T', s = (nI 1, nI i, cS N' R' J) ∧ PI Γ N' R' o S T' ∧ ∀ q, q < i → tq T' q = dA xs L q) _ 3 4 _ ⟨N, R, T, rfl, h, fun q hq => absurd hq (Nat.not_lt_zero q)⟩ (by omega) ?_) ?_
  · intro i s hi ⟨N1, R1, S1, e, h1, x1⟩
    subst e
    refine ⟨fun hlt => ?_, fun heq => ?_⟩
    · obtain ⟨u1, u2⟩ := f_up (Γ := Γ) (σ := cS N1 R1 J) (cV xs L (2 * i)) (n := 3) (by omega) (by omega)
      obtain ⟨u3, u4⟩ := f_up (Γ := Γ) (σ := cS N1 R1 J) (cV xs L (2 * i + 1)) (n := 1000000) (by omega) (by omega)
      show OkG (f_L_draws_B4 xs L b Γ (o + 373) b (nI 1) (nI i) (cS N1 R1 J)) _
      unfold f_L_draws_B4
      simp only [L0, L1, L2, L3, L1000000]
      rw [ile_f hlt (by omega), eq0_f, pk_mul, f_cell hL (by omega), c_bnd, u1, c_bnd, nI_add, f_cell hL (by omega), c_bnd, u3, c_bnd]
      refine go_p h1 (c_random h1.2.2.1 h1.2.2.2) (v_rand (x := i) (by omega) (by omega) (by omega)) (fun N2 R2 h2 => ?_)
      rw [lt0_f (Nat.lt_trans wtA_lt (by decide))]
      unfold f_L_draws_B4_L51
      rw [L1, nI_add]
      refine okg_i ⟨_, rfl, N2, R2, _, rfl, h2, fun q hq => ?_⟩
      by_cases e : q = i
      · rw [e, tq_t]
        rfl
      · rw [tq_o e]
        exact x1 q (by omega)
    · subst heq
      show OkG (f_L_draws_B4 xs L b Γ (o + 373) b (nI 1) (nI 3) (cS N1 R1 J)) _
      unfold f_L_draws_B4
      rw [L3, ile_t (Nat.le_refl 3) (by omega)]
      exact okg_i ⟨_, rfl, N1, R1, S1, rfl, h1, x1⟩
  · intro a σ ⟨N1, R1, S1, e, h1, x1⟩
    cases e
    rw [c_b1]
    exact okg_i ⟨N1, R1, S1, rfl, h1, x1⟩
/-- the digest before a change and behind its undoing -/
theorem law_dig (h : PI Γ N R o S T) (h4 : S.1.1 = 4) (hL : L ≤ 260) : OkG (f_L_law_L119 xs L b Γ b o (nI 1) (cS N R J)) (fun r => r.1 = 1) := by
  obtain ⟨u1, u2⟩ := f_up (Γ := Γ) (σ := cS N R J) (cV xs L 8) (n := 4) (by omega) (by omega)
  obtain ⟨u3, u4⟩ := f_up (Γ := Γ) (σ := cS N R J) (cV xs L 9) (n := 13) (by omega) (by omega)
  unfold f_L_law_L119
  simp only [L0, L3, L4, L8, L9, L13]
  refine go_d h (fun N1 h1 => ?_)
  obtain ⟨u1, u2⟩ := f_up (Γ := Γ) (σ := cS N1 R J) (cV xs L 8) (n := 4) (by omega) (by omega)
  obtain ⟨u3, u4⟩ := f_up (Γ := Γ) (σ := cS N1 R J) (cV xs L 9) (n := 13) (by omega) (by omega)
  rw [eq0_f, f_cell hL (by omega), c_bnd, u1, c_bnd, f_cell hL (by omega), c_bnd, u3, c_bnd]
  refine go_o h1 (c_begin h1.1 h1.2.1) (v_begin (by omega) (by omega)) (fun N2 R2 h2 => ?_)
  rw [lt0_f (by have := (h1.ok u2).2; omega)]
  have c5 : (tsv S (uV (cV xs L 8) 4) (zerA (uV (cV xs L 9) 13))).1.1 = 4 := by
    rw [cn_s]
    unfold aBase
    rw [if_pos h4]
  refine go_o h2 (c_undo h2.1 h2.2.1) (v_undo (by omega)) (fun N3 R3 h3 => ?_)
  rw [if_pos (by rw [c5])]
  refine go_d h3 (fun N4 h4' => ?_)
  have e1 : dgS (uS (tsv S (uV (cV xs L 8) 4) (zerA (uV (cV xs L 9) 13)))) 4 = dgS S 4 := by
    refine dg_c (S := uS (tsv S (uV (cV xs L 8) 4) (zerA (uV (cV xs L 9) 13)))) (S' := S) rfl (fun q _ => ?_) 4 (Nat.le_refl 4)
    rw [← tv_0, tv_u, tv_s (by omega) (by omega), tv_0]
  rw [if_pos]
  · unfold f_L_law_L183
    rw [show isB 1 = true from rfl, c_chk]
    exact okg_i rfl
  · refine (lg_cmp_eq _ _).mpr ?_
    rw [e1, cn_u, c5, h4]
    exact dig_eq
theorem L5000 : (5000 : Int32) = nI 5000 := id rfl
theorem law_rest (h : PI Γ N R o S T) (hL : L ≤ 260) : OkG (f_L_law_R16 xs L b Γ b o (o + 373) (cS N R J)) (fun r => r.1 = 1) := by
  unfold f_L_law_R16
  simp only [L0, L1, L2]
  refine okg_bnd (draw_o h hL) (fun a σ ⟨N1, R1, S1, e, h1, x1⟩ => ?_)
  cases e
  rw [eq0_f]
  refine okg_bnd (draw_p h1 hL) (fun a σ ⟨N2, R2, T1, e, h2, y1⟩ => ?_)
  cases e
  rw [eq0_f]
  refine okg_bnd (law_spread (k := 1) h2 (Or.inl rfl) (x1 0 (by omega)) (x1 1 (by omega)) (x1 2 (by omega)) (y1 0 (by omega)) (y1 1 (by omega)) (y1 2 (by omega)) dA_le dA_le dA_le) (fun a σ ⟨N3, R3, S2, T2, e, h3, x2, y2⟩ => ?_)
  cases e
  rw [eq0_f]
  refine okg_bnd (law_spread (k := 2) h3 (Or.inr rfl) ((x2 0).trans (x1 0 (by omega))) ((x2 1).trans (x1 1 (by omega))) ((x2 2).trans (x1 2 (by omega))) ((y2 0).trans (y1 0 (by omega))) ((y2 1).trans (y1 1 (by omega))) ((y2 2).trans (y1 2 (by omega))) dA_le dA_le dA_le) (fun a σ ⟨N4, R4, S3, T3, e, h4, x3, y3⟩ => ?_)
  cases e
  rw [eq0_f]
  unfold f_L_law_L55
  simp only [L0, L1, L6, L7, L10007, L5000]
  rw [eq0_f]
  refine okg_bnd (law_turned h4 ((x3 0).trans ((x2 0).trans (x1 0 (by omega)))) ((x3 1).trans ((x2 1).trans (x1 1 (by omega)))) dA_le dA_le) (fun a σ ⟨N5, R5, S4, e, h5, x4, z4⟩ => ?_)
  cases e
  rw [eq0_f]
  refine okg_bnd (law_reduced (k := 0) h5 (by omega) x4 dA_le) (fun a σ ⟨N6, R6, S5, e, h6, x5⟩ => ?_)
  cases e
  rw [eq0_f]
  refine okg_bnd (law_reduced (k := 1) h6 (by omega) ((x5 1 (by omega)).trans z4) dA_le) (fun a σ ⟨N7, R7, S6, e, h7, x6⟩ => ?_)
  cases e
  obtain ⟨u1, u2⟩ := f_up (Γ := Γ) (σ := cS N7 R7 J) (cV xs L 6) (n := 10007) (by omega) (by omega)
  obtain ⟨u3, u4⟩ := f_up (Γ := Γ) (σ := cS N7 R7 J) (cV xs L 7) (n := 5000) (by omega) (by omega)
  rw [eq0_f, f_cell hL (by omega), c_bnd, u1, c_bnd, f_cell hL (by omega), c_bnd, u3, c_bnd]
  refine okg_bnd (law_scaled h7 ((x6 0 (by omega)).trans ((x5 0 (by omega)).trans x4)) dA_le u2 u4) (fun a σ ⟨N8, R8, S7, e, h8, c8⟩ => ?_)
  cases e
  rw [eq0_f]
  exact law_dig h8 c8 hL
def S0 : tS := ((0, fun _ _ => zerA 0, fun _ => 0), 0, fun _ => 0)
theorem S0_I : tI S0 := ⟨⟨Nat.zero_le _, fun _ _ _ _ => ⟨zerA_ok, Nat.zero_le _⟩, fun k hk => absurd hk (Nat.not_lt_zero k)⟩, Nat.zero_le _, fun i hi => absurd hi (Nat.not_lt_zero i)⟩
theorem ki0 (h : kSh Γ R o) : KI Γ N0 R o S0 := ⟨h, ⟨rfl, fun q hq => ⟨rfl, fun i hi => absurd hi (Nat.not_lt_zero i)⟩, fun k hk => absurd hk (Nat.not_lt_zero k)⟩, rfl, fun i hi => absurd hi (Nat.not_lt_zero i), fun k hk => Nat.zero_le _⟩
theorem law_true {xs : Nat → Int32} {L b z : Nat} (hL : L ≤ 260) (hb : b < z) : f_law xs L b z = some 1 := by
  have hz : z ≠ 0 := by omega
  unfold f_law
  rw [show ((fun _ _ => 0, fun _ _ => 0, fun _ _ => 0) : zSt) = cS N0 (fun _ _ => 0) J0 from rfl]
  obtain ⟨Γ1, R1, e1, f1, k1⟩ := nx_X6 (Γ := fun _ => none) (R := fun _ _ => 0) (z := z) hz
  obtain ⟨Γ2, R2, e2, f2, k2⟩ := nx_X6 (Γ := Γ1) (R := R1) (z := z + 373) (by omega)
  rw [a_nwO, e1, a_bnd, a_nwO, e2, a_bnd]
  have h : PI Γ2 N0 R2 z S0 S0 := ⟨ki0 (k1.uf (fun x a c => f2 x (by omega))), S0_I, ki0 k2, S0_I⟩
  obtain ⟨r, e, hr⟩ := law_rest (J := J0) (b := b) (xs := xs) h hL
  rw [e]
  exact congrArg some hr
end LTR
