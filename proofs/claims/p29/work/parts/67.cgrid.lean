/-! ===== the class's grid: rows that are swapped, its rank ===== -/
def gS (Γ : zSh) (R : Mem) (g : Nat) (π : Nat → Nat) : Prop := (Γ g = some (3 + 5, 0) ∧ g ≠ 0) ∧ Γ (g + 1) = some (3, 31) ∧ R g 0 = g + 1 ∧ (∀ k, k < 31 → π k < 31 ∧ R (g + 1) k = g + 2 + π k ∧ Γ (g + 2 + k) = some (0, 31)) ∧ ∀ k k', k < 31 → k' < 31 → k ≠ k' → π k ≠ π k'
def swR (R : Mem) (a f i : Nat) : Mem := up2 (up2 R a i (R a f)) a f (R a i)
theorem swR_ne {R : Mem} {a f i x : Nat} (h : x ≠ a) : swR R a f i x = R x := by
  funext k
  unfold swR up2
  rw [if_neg (fun q => h q.1), if_neg (fun q => h q.1)]
theorem swR_at {R : Mem} {a f i k : Nat} : swR R a f i a k = if k = f then R a i else if k = i then R a f else R a k := by
  unfold swR up2
  by_cases e1 : k = f
  · rw [if_pos ⟨rfl, e1⟩, if_pos e1]
  · rw [if_neg (fun q => e1 q.2), if_neg e1]
    by_cases e2 : k = i
    · rw [if_pos ⟨rfl, e2⟩, if_pos e2]
    · rw [if_neg (fun q => e2 q.2), if_neg e2]
section CG
variable {Γ : zSh} {N R : Mem} {J : Nat → Nat → Int64} {g h w f i c : Nat} {π : Nat → Nat} {G : Nat → Nat → Nat}
theorem gS.row (hg : gS Γ R g π) {k : Nat} (hk : k < 31) : Γ (R (g + 1) k) = some (0, 31) ∧ R (g + 1) k ≠ 0 ∧ g + 2 ≤ R (g + 1) k ∧ R (g + 1) k < g + 33 := by
  obtain ⟨_, _, _, h1, _⟩ := hg
  obtain ⟨a, b, _⟩ := h1 k hk
  rw [b]
  exact ⟨(h1 (π k) a).2.2, by omega, by omega, by omega⟩
theorem gS.inj (hg : gS Γ R g π) {k k' : Nat} (hk : k < 31) (hk' : k' < 31) (hne : k ≠ k') : R (g + 1) k ≠ R (g + 1) k' := by
  obtain ⟨_, _, _, h1, h2⟩ := hg
  have := h2 k k' hk hk' hne
  rw [(h1 k hk).2.1, (h1 k' hk').2.1]
  omega
theorem gS.sw (hg : gS Γ R g π) (hf : f < 31) (hi : i < 31) : gS Γ (swR R (g + 1) f i) g (fun k => if k = f then π i else if k = i then π f else π k) := by
  obtain ⟨h1, h2, h3, h4, h5⟩ := hg
  refine ⟨h1, h2, by rw [swR_ne (by omega)]; exact h3, fun k hk => ?_, fun k k' hk hk' hne => ?_⟩
  · rw [swR_at]
    obtain ⟨a1, a2, a3⟩ := h4 k hk
    obtain ⟨b1, b2, _⟩ := h4 i hi
    obtain ⟨c1, c2, _⟩ := h4 f hf
    dsimp only
    by_cases e1 : k = f
    · rw [if_pos e1, if_pos e1]; exact ⟨b1, b2, a3⟩
    · rw [if_neg e1, if_neg e1]
      by_cases e2 : k = i
      · rw [if_pos e2, if_pos e2]; exact ⟨c1, c2, a3⟩
      · rw [if_neg e2, if_neg e2]; exact ⟨a1, a2, a3⟩
  · dsimp only
    by_cases e1 : k = f
    · rw [if_pos e1]
      by_cases e2 : k' = f
      · omega
      · rw [if_neg e2]
        by_cases e3 : k' = i
        · rw [if_pos e3]; exact h5 _ _ hi hf (by omega)
        · rw [if_neg e3]; exact h5 _ _ hi hk' (by omega)
    · rw [if_neg e1]
      by_cases e2 : k' = f
      · rw [if_pos e2]
        by_cases e3 : k = i
        · rw [if_pos e3]; exact h5 _ _ hf hi (by omega)
        · rw [if_neg e3]; exact h5 _ _ hk hi (by omega)
      · rw [if_neg e2]
        by_cases e3 : k = i
        · rw [if_pos e3]
          by_cases e4 : k' = i
          · omega
          · rw [if_neg e4]; exact h5 _ _ hf hk' (by omega)
        · rw [if_neg e3]
          by_cases e4 : k' = i
          · rw [if_pos e4]; exact h5 _ _ hk hf (by omega)
          · rw [if_neg e4]; exact h5 _ _ hk hk' hne
theorem c_raise (hg : gS Γ R g π) (hh : h ≤ 31) (hf : f < h) (hc : c < 31) (hG : ∀ k, f ≤ k → k < h → N (R (g + 1) k) c = G k c) (hb : ∀ k, f ≤ k → k < h → G k c < 10007) : f_X3_raisePivot Γ g (nI f) (nI h) (nI c) (cS N R J) = if gfi G h f c = h then some (0, cS N R J) else some (1, cS N (swR R (g + 1) f (gfi G h f c)) J) := by
  obtain ⟨i1, i2⟩ := gfi_le (G := G) (c := c) (Nat.le_of_lt hf)
  obtain ⟨i3, i4⟩ := gfi_spec (G := G) (c := c) (Nat.le_of_lt hf)
  generalize gfi G h f c = i at *
  have hgg := hg
  obtain ⟨⟨ho, hg0⟩, g1, r0, _⟩ := hg
  have hl : loopM (fun q => f_X3_raisePivot_B3 Γ g (nI f) (nI h) (nI c) q.1 q.2) FUEL (nI f, cS N R J) = if i = h then some (.inl (cS N R J)) else some (.inr (1, cS N (swR R (g + 1) f i) J)) := by
    have st : ∀ k, k < i - f → f_X3_raisePivot_B3 Γ g (nI f) (nI h) (nI c) (nI (f + k)) (cS N R J) = some (.inl (nI (f + (k + 1)), cS N R J)) := by
      intro k hk
      have e1 := hG (f + k) (by omega) (by omega)
      rw [i3 (f + k) (by omega) (by omega)] at e1
      obtain ⟨a1, a2, _, _⟩ := hgg.row (k := f + k) (by omega)
      unfold f_X3_raisePivot_B3
      simp (disch := omega) only [c_bnd, c_chk, c_lb0, c_lb1, c_lb2, c_lb3, L0, L1, L2, L10007, nI_add, pk_mul, ile_t, ile_f, ilt_t, ilt_f, ieq_t, ieq_f, c_rmI, setF_at, setF_ne, setF_setF, true_and, up1_at, up1_ne, pk_sub, pk_cpy_in, pk_cpy_out, Nat.zero_add, Nat.add_zero, Nat.zero_mul, Nat.sub_zero, Nat.add_sub_cancel_left, c_gfR ho r0, c_ldG g1 rfl a2, c_ldI a1, e1]
      rfl
    by_cases e : i = h
    · rw [if_pos e]
      refine loop_for (fun k => (nI (f + k), cS N R J)) _ (i - f) rfl (by unfold FUEL; omega) st ?_
      show f_X3_raisePivot_B3 _ _ _ _ _ _ _ = _
      unfold f_X3_raisePivot_B3
      rw [show f + (i - f) = i by omega, ile_t (by omega) (by omega)]
    · rw [if_neg e]
      refine loop_for (fun k => (nI (f + k), cS N R J)) _ (i - f) rfl (by unfold FUEL; omega) st ?_
      show f_X3_raisePivot_B3 _ _ _ _ _ _ _ = _
      unfold f_X3_raisePivot_B3
      have e1 := hG i i1 (by omega)
      have e2 := i4 (by omega)
      have e3 := hb i i1 (by omega)
      rw [← e1] at e2 e3
      obtain ⟨a1, a2, _, _⟩ := hgg.row (k := i) (by omega)
      obtain ⟨b1, b2, _, _⟩ := hgg.row (k := f) (by omega)
      have r0' : (up2 R (g + 1) i (R (g + 1) f)) g 0 = g + 1 := by rw [up2_ne (by omega)]; exact r0
      rw [show f + (i - f) = i by omega]
      simp (disch := omega) only [c_bnd, c_chk, c_lb0, c_lb1, c_lb2, c_lb3, L0, L1, L2, L10007, nI_add, pk_mul, ile_t, ile_f, ilt_t, ilt_f, ieq_t, ieq_f, c_rmI, setF_at, setF_ne, setF_setF, true_and, up1_at, up1_ne, pk_sub, pk_cpy_in, pk_cpy_out, Nat.zero_add, Nat.add_zero, Nat.zero_mul, Nat.sub_zero, Nat.add_sub_cancel_left, c_gfR ho r0, c_gfR ho r0', c_ldG g1 rfl a2, c_ldG g1 rfl b2, c_ldI a1, c_stG (h := g1) (hv := b1), c_stG (h := g1) (hv := a1), show decide (R (g + 1) i ≠ 0) = true from decide_eq_true a2, show decide (R (g + 1) f ≠ 0) = true from decide_eq_true b2, show isB (nI 1) = true from rfl]
      rfl
  unfold f_X3_raisePivot
  rw [hl]
  by_cases e : i = h
  · rw [if_pos e, if_pos e]
    rfl
  · rw [if_neg e, if_neg e]
    rfl
theorem c_clear (hg : gS Γ R g π) (hh : h ≤ 31) (hw : w ≤ 31) (hf : f < h) (hc : c < w) {T : Nat → Nat → Nat} (hT : ∀ k j, f ≤ k → k < h → j < w → N (R (g + 1) k) j = T k j) (hb : ∀ k j, f ≤ k → k < h → j < w → T k j < 10007) : Mx (f_X3_clearBelow Γ g (nI f) (nI h) (nI c) (nI w) (cS N R J)) (fun σ => ((), σ)) R J (fun N' => frA N N' (g + 2) (g + 33) ∧ ∀ k j, f < k → k < h → j < w → N' (R (g + 1) k) j = (T k j + T k c * (10007 - rcp (T f c)) % 10007 * T f j) % 10007) := by
  have hg0 := hg
  obtain ⟨⟨ho, hgz⟩, g1, r0, _⟩ := hg
  obtain ⟨b1, b2, b3, b4⟩ := hg0.row (k := f) (by omega)
  have t0 := hT f c (Nat.le_refl f) hf hc
  have t1 := hb f c (Nat.le_refl f) hf hc
  unfold f_X3_clearBelow
  simp (disch := omega) only [c_bnd, c_chk, c_lb0, c_lb1, c_lb2, c_lb3, L0, L1, L2, L10007, nI_add, pk_mul, ile_t, ile_f, ilt_t, ilt_f, ieq_t, ieq_f, c_rmI, setF_at, setF_ne, setF_setF, true_and, up1_at, up1_ne, pk_sub, pk_cpy_in, pk_cpy_out, Nat.zero_add, Nat.add_zero, Nat.zero_mul, Nat.sub_zero, Nat.add_sub_cancel_left, c_gfR ho r0, c_ldG g1 rfl b2, c_ldI b1, t0, s_rcp t1]
  generalize hs : rcp (T f c) = s at *
  have hs2 : s < 10007 := by rw [← hs]; exact rcp_lt
  refine mx_lb0 (mx_for (fun d N' => frA N N' (g + 2) (g + 33) ∧ ∀ k j, f ≤ k → k < h → j < w → N' (R (g + 1) k) j = if f < k ∧ k < d then (T k j + T k c * (10007 - s) % 10007 * T f j) % 10007 else T k j) (s := f + 1) (e := h) (by omega) (by omega) ⟨frA.refl, fun k j a b d => by rw [if_neg (by omega)]; exact hT k j a b d⟩ ?_ ?_) ?_
  · intro d N1 hd1 hd2 ⟨r1, r2⟩
    obtain ⟨a1, a2, a3, a4⟩ := hg0.row (k := d) (by omega)
    have hne := hg0.inj (k := d) (k' := f) (by omega) (by omega) (by omega)
    have u0 := r2 d c (by omega) hd2 hc
    rw [if_neg (by omega)] at u0
    have u1 := hb d c (by omega) hd2 hc
    have m1 : T d c * (10007 - s) ≤ 10006 * 10007 := Nat.mul_le_mul (by omega) (by omega)
    have m2 := mlt (T d c * (10007 - s))
    have rowd : ∀ j, j < w → N1 (R (g + 1) d) j = T d j := fun j hj => by rw [r2 d j (by omega) hd2 hj, if_neg (by omega)]
    have rowf : ∀ j, j < w → N1 (R (g + 1) f) j = T f j := fun j hj => by rw [r2 f j (by omega) hf hj, if_neg (by omega)]
    show Mx (f_X3_clearBelow_B22 _ _ _ _ _ _ _ _ _) _ _ _ _
    unfold f_X3_clearBelow_B22
    simp (disch := omega) only [c_bnd, c_chk, c_lb0, c_lb1, c_lb2, c_lb3, L0, L1, L2, L10007, nI_add, pk_mul, ile_t, ile_f, ilt_t, ilt_f, ieq_t, ieq_f, c_rmI, setF_at, setF_ne, setF_setF, true_and, up1_at, up1_ne, pk_sub, pk_cpy_in, pk_cpy_out, Nat.zero_add, Nat.add_zero, Nat.zero_mul, Nat.sub_zero, Nat.add_sub_cancel_left, c_gfR ho r0, c_ldG g1 rfl a2, c_ldG g1 rfl b2, c_ldI a1, u0]
    by_cases e : T d c * (10007 - s) % 10007 = 0
    · rw [ieq_t e]
      unfold f_X3_clearBelow_B22_L71
      rw [L1, nI_add]
      refine mx_eq rfl ⟨r1, fun k j p1 p2 p3 => ?_⟩
      rw [r2 k j p1 p2 p3]
      by_cases e2 : k = d
      · subst e2
        rw [if_neg (by omega), if_pos (by omega), e, Nat.zero_mul, Nat.add_zero, Nat.mod_eq_of_lt (hb k j p1 p2 p3)]
      · by_cases e3 : f < k ∧ k < d
        · rw [if_pos e3, if_pos (by omega)]
        · rw [if_neg e3, if_neg (by omega)]
    · rw [ieq_f e (by omega) (by omega), s_addMul a1 b1 hne (by omega) (by omega) (by omega) (by omega) (by omega) (fun j hj => by rw [rowd j hj]; exact hb d j (by omega) hd2 hj) (fun j hj => by rw [rowf j hj]; exact hb f j (by omega) hf hj), c_bnd]
      unfold f_X3_clearBelow_B22_L71
      rw [L1, nI_add]
      refine mx_eq rfl ⟨r1.trans (frA.set (by omega) (by omega)), fun k j p1 p2 p3 => ?_⟩
      by_cases e2 : k = d
      · subst e2
        rw [setF_at, if_pos p3, rowd j p3, rowf j p3, if_pos (by omega)]
      · rw [setF_ne (hg0.inj (by omega) (by omega) e2), r2 k j p1 p2 p3]
        by_cases e3 : f < k ∧ k < d
        · rw [if_pos e3, if_pos (by omega)]
        · rw [if_neg e3, if_neg (by omega)]
  · intro N1 _
    show f_X3_clearBelow_B22 _ _ _ _ _ _ _ _ _ = _
    unfold f_X3_clearBelow_B22
    simp (disch := omega) only [c_bnd, c_chk, c_lb0, c_lb1, c_lb2, c_lb3, L0, L1, L2, L10007, nI_add, pk_mul, ile_t, ile_f, ilt_t, ilt_f, ieq_t, ieq_f, c_rmI, setF_at, setF_ne, setF_setF, true_and, up1_at, up1_ne, pk_sub, pk_cpy_in, pk_cpy_out, Nat.zero_add, Nat.add_zero, Nat.zero_mul, Nat.sub_zero, Nat.add_sub_cancel_left]
  · intro N1 ⟨r1, r2⟩
    exact mx_eq rfl ⟨r1, fun k j p1 p2 p3 => by rw [r2 k j (by omega) p2 p3, if_pos ⟨p1, p2⟩]⟩
theorem c_rank (hg : gS Γ R g π) (hh : h ≤ 31) (hw : w ≤ 31) (hG : ∀ k j, k < h → j < w → N (R (g + 1) k) j = G k j) (hb : ∀ k j, k < h → j < w → G k j < 10007) : MxR (f_X3_rank Γ g (nI h) (nI w) (cS N R J)) (fun σ => (nI (rkS h G w).1, σ)) J (fun N' R' => (∃ π', gS Γ R' g π') ∧ frA N N' (g + 2) (g + 33) ∧ ∀ x, x ≠ g + 1 → R' x = R x) := by
  have ho : Γ g = some (3 + 5, 0) := hg.1.1
  unfold f_X3_rank
  rw [L0]
  suffices hh2 : ∃ b, loopM (fun q => f_X3_rank_B5 Γ g (nI h) (nI w) q.1 q.2.1 q.2.2) FUEL (nI 0, nI 0, cS N R J) = some b ∧ ∃ N' R', b = (nI (rkS h G w).1, cS N' R' J) ∧ (∃ π', gS Γ R' g π') ∧ frA N N' (g + 2) (g + 33) ∧ ∀ x, x ≠ g + 1 → R' x = R x by
    obtain ⟨b, e1, N', R', rfl, e2⟩ := hh2
    rw [e1]
    exact mr_eq rfl e2
  refine loopM_e (fun c s => ∃ N' R', s = (nI (rkS h G c).1, nI c, cS N' R' J) ∧ (∃ π', gS Γ R' g π') ∧ frA N N' (g + 2) (g + 33) ∧ (∀ x, x ≠ g + 1 → R' x = R x) ∧ ∀ k j, (rkS h G c).1 ≤ k → k < h → j < w → N' (R' (g + 1) k) j = (rkS h G c).2 k j) (fun b => ∃ N' R', b = (nI (rkS h G w).1, cS N' R' J) ∧ (∃ π', gS Γ R' g π') ∧ frA N N' (g + 2) (g + 33) ∧ ∀ x, x ≠ g + 1 → R' x = R x) w ?_ w 0 FUEL _ (by omega) ⟨N, R, rfl, ⟨π, hg⟩, frA.refl, fun x _ => rfl, fun k j _ a b => hG k j a b⟩ (by unfold FUEL; omega)
  intro c s hc ⟨N1, R1, e, ⟨π1, r1⟩, r2, r3, r4⟩
  subst e
  obtain ⟨f1, f2⟩ := rk_le (h := h) (G := G) c
  have hlt := rk_lt hb c
  show (c < w ∧ ∃ s', f_X3_rank_B5 _ _ _ _ _ _ _ = some (.inl s') ∧ _) ∨ ∃ b, f_X3_rank_B5 _ _ _ _ _ _ _ = some (.inr b) ∧ _
  unfold f_X3_rank_B5
  by_cases e1 : c = w
  · subst e1
    rw [ile_t (by omega) (by omega)]
    exact Or.inr ⟨_, rfl, N1, R1, rfl, ⟨π1, r1⟩, r2, r3⟩
  have hcw : c < w := by omega
  rw [ile_f (by omega) (by omega)]
  have hst : rkS h G (c + 1) = if gfi (rkS h G c).2 h (rkS h G c).1 c = h ∨ h ≤ (rkS h G c).1 then rkS h G c else ((rkS h G c).1 + 1, gel (rkS h G c).2 (rkS h G c).1 (gfi (rkS h G c).2 h (rkS h G c).1 c) c) := rfl
  by_cases e2 : h ≤ (rkS h G c).1
  · rw [ile_t e2 (by omega)]
    have := rk_stop e2 (w - c)
    rw [show c + (w - c) = w by omega] at this
    exact Or.inr ⟨_, rfl, N1, R1, by rw [this], ⟨π1, r1⟩, r2, r3⟩
  have hr := c_raise (J := J) r1 hh (show (rkS h G c).1 < h by omega) (show c < 31 by omega) (fun k a b => r4 k c a b hcw) (fun k a b => hlt k c b hcw)
  obtain ⟨i1, i2⟩ := gfi_le (G := (rkS h G c).2) (c := c) f1
  rw [ile_f (by omega) (by omega), c_chkO ho, hr]
  generalize hf : (rkS h G c).1 = f at *
  generalize hi : gfi (rkS h G c).2 h f c = i at *
  refine Or.inl ⟨hcw, ?_⟩
  by_cases e3 : i = h
  · rw [if_pos e3, c_bnd, if_pos rfl]
    unfold f_X3_rank_B5_L39
    rw [if_pos (Or.inl e3)] at hst
    rw [L1, nI_add]
    refine ⟨_, rfl, N1, R1, ?_, ⟨π1, r1⟩, r2, r3, ?_⟩
    · rw [hst, hf]
    · rw [hst, hf]
      exact r4
  · rw [if_neg e3, c_bnd, if_neg (by decide), c_chkO ho]
    rw [if_neg (by omega)] at hst
    have hsw := r1.sw (f := f) (i := i) (by omega) (by omega)
    have hT : ∀ k j, f ≤ k → k < h → j < w → N1 (swR R1 (g + 1) f i (g + 1) k) j = gsw (rkS h G c).2 f i k j := by
      intro k j a1 a2 a3
      rw [swR_at]
      unfold gsw
      by_cases q1 : k = f
      · rw [if_pos q1, if_pos q1]; exact r4 i j i1 (by omega) a3
      · rw [if_neg q1, if_neg q1]
        by_cases q2 : k = i
        · rw [if_pos q2, if_pos q2]; exact r4 f j (Nat.le_refl f) (by omega) a3
        · rw [if_neg q2, if_neg q2]; exact r4 k j a1 a2 a3
    have hTb : ∀ k j, f ≤ k → k < h → j < w → gsw (rkS h G c).2 f i k j < 10007 := by
      intro k j a1 a2 a3
      unfold gsw
      by_cases q1 : k = f
      · rw [if_pos q1]; exact hlt i j (by omega) a3
      · rw [if_neg q1]
        by_cases q2 : k = i
        · rw [if_pos q2]; exact hlt f j (by omega) a3
        · rw [if_neg q2]; exact hlt k j a2 a3
    obtain ⟨N2, s0, s1, s2⟩ := c_clear (J := J) hsw hh hw (show f < h by omega) hcw hT hTb
    rw [s0, c_bnd]
    unfold f_X3_rank_B5_L39
    rw [L1, nI_add, nI_add]
    have hgf : gsw (rkS h G c).2 f i f = (rkS h G c).2 i := if_pos rfl
    refine ⟨_, rfl, N2, _, ?_, ⟨_, hsw⟩, r2.trans s1, fun x hx => by rw [swR_ne hx]; exact r3 x hx, ?_⟩
    · rw [hst]
    · rw [hst]
      intro k j a1 a2 a3
      have a1' : f + 1 ≤ k := a1
      rw [s2 k j (by omega) a2 a3, hgf]
      show _ = gel _ _ _ _ k j
      unfold gel
      rw [if_pos (by omega)]
end CG
