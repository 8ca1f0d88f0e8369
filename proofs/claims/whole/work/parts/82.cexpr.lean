/-! ===== the class's expression: its steps ===== -/
def cEf (N N' : Mem) (e b : Nat) : Prop := (∀ x, x < e ∨ e + 126 ≤ x → x < b ∨ b + 131 ≤ x → N' x = N x) ∧ (∀ i, i ≠ 7 → N' e i = N e i) ∧ N' (e + 1) = N (e + 1)
def cSz (N : Mem) (e : Nat) : Prop := ∀ k, k < 9 → N (e + 3 + 6 * k) 0 ≤ 12
def cV (N : Mem) (e d : Nat) (v : vs) : Prop := ∀ k, k ≤ d → (N (e + 113) k < 2 ∧ N (e + 113) k = v.2.2.1 k ∧ (v.2.2.1 k ≠ 0 → cAu N (e + 59 + 6 * k) (v.2.2.2.1 k))) ∧ N (e + 57) k < 2 ∧ N (e + 57) k = v.2.2.2.2.1 k ∧ (v.2.2.2.2.1 k ≠ 0 → cAu N (e + 3 + 6 * k) (v.2.2.2.2.2 k))
section CE
variable {Γ : zSh} {N N' N1 R : Mem} {J : Nat → Nat → Int64} {e b d c lo hi w : Nat} {v : vs}
theorem cEf.refl : cEf N N e b := ⟨fun _ _ _ => rfl, fun _ _ => rfl, rfl⟩
theorem cEf.trans (h : cEf N N1 e b) (k : cEf N1 N' e b) : cEf N N' e b := ⟨fun x a c => (k.1 x a c).trans (h.1 x a c), fun i a => (k.2.1 i a).trans (h.2.1 i a), k.2.2.trans h.2.2⟩
theorem cEf.h7 : cEf N (setF N e (up1 (N e) 7 w)) e b := ⟨fun x a _ => setF_ne (by omega), fun i hi => by rw [setF_at, up1_ne hi], setF_ne (by omega)⟩
theorem cEf.of (h : frA N N' lo hi) (h1 : e + 2 ≤ lo) (h2 : hi ≤ e + 126) : cEf N N' e b := ⟨fun x a _ => h x (by omega), fun i _ => by rw [h e (by omega)], h _ (by omega)⟩
theorem cEf.of2 (h : fr2 N N' b (b + 131) lo hi) (hbe : b + 131 ≤ e) (h1 : e + 2 ≤ lo) (h2 : hi ≤ e + 126) : cEf N N' e b := ⟨fun x a c => h x (by omega) (by omega), fun i _ => by rw [h e (by omega) (by omega)], h _ (by omega) (by omega)⟩
theorem cSz.of (h : cSz N e) (f : ∀ x, e + 3 ≤ x → x < e + 57 → N' x = N x) : cSz N' e := fun k hk => by rw [f _ (by omega) (by omega)]; exact h k hk
theorem cV.fr (h : cV N e d v) (hd : d ≤ 8) (f : ∀ x, e + 3 ≤ x → x < e + 114 → N' x = N x) : cV N' e d v := by
  intro k hk
  obtain ⟨⟨h1, h2, h3⟩, h4, h5, h6⟩ := h k hk
  rw [f _ (by omega) (by omega), f _ (by omega) (by omega)]
  exact ⟨⟨h1, h2, fun u => CAu_fr (h3 u) (fun x a c => f x (by omega) (by omega))⟩, h4, h5, fun u => CAu_fr (h6 u) (fun x a c => f x (by omega) (by omega))⟩
theorem clF_hP : (clF d v).1 = 0 → (clF d v).2.2.1 d ≠ 0 := by
  unfold clF
  by_cases e1 : v.2.2.1 d = 0
  · rw [if_pos e1]
    intro _
    show up1 _ d 1 d ≠ 0
    rw [up1_at]
    omega
  · rw [if_neg e1]
    by_cases e2 : (v.2.2.2.1 d).1 + v.2.1.1 ≤ 12
    · rw [if_pos e2]
      exact fun _ => e1
    · rw [if_neg e2]
      exact fun u => absurd u (show (1 : Nat) ≠ 0 by omega)
theorem k_clF (he : eS Γ R e) (hb : bS Γ R b) (hbe : b + 131 ≤ e) (hd : d ≤ 8) (hv : vI v) (hV : cV N e d v) (hF : cAu N (e + 114) v.2.1) (hz : cSz N e) (h7 : N e 7 = 1) : Mx (f_X2_closeFactor Γ e (nI d) b (cS N R J)) (fun σ => (nI (1 - (clF d v).1), σ)) R J (fun N' => cEf N N' e b ∧ cSz N' e ∧ N' e 7 = 0 ∧ ((clF d v).1 = 0 → cV N' e d (clF d v))) := by
  obtain ⟨⟨y1, y2⟩, ⟨z1, z2, z3, z4, z5, z6, z8⟩, ⟨g1, g2, g3, g4, g5⟩, hk, hfac, hjo⟩ := id he
  obtain ⟨_, _, r1, p1⟩ := hk d (by omega)
  obtain ⟨⟨b1, b2, b3⟩, b4, b5, b6⟩ := hV d (Nat.le_refl d)
  have hIP := (hv.2 d).1
  have hIF := hv.1
  unfold f_X2_closeFactor
  simp (disch := omega) only [c_bnd, c_chk, c_lb0, c_lb1, c_lb2, c_lb3, L0, L1, L2, L10007, nI_add, pk_mul, ile_t, ile_f, ilt_t, ilt_f, ieq_t, ieq_f, c_rmI, setF_at, setF_ne, setF_setF, true_and, up1_at, up1_ne, pk_sub, pk_cpy_in, pk_cpy_out, Nat.zero_add, Nat.add_zero, Nat.zero_mul, Nat.sub_zero, Nat.add_sub_cancel_left, c_gfI y1, h7, c_pfZ y1, c_gfR y1 z4, c_gfR y1 z5, c_ldA g4 r1, c_ldZ g5]
  have f0 : ∀ x, x ≠ e → setF N e (up1 (N e) 7 0) x = N x := fun x hx => setF_ne hx
  have hF0 : cAu (setF N e (up1 (N e) 7 0)) (e + 114) v.2.1 := CAu_fr hF (fun x a c => f0 x (by omega))
  have hcl : clF d v = if v.2.2.1 d = 0 then (0, v.2.1, up1 v.2.2.1 d 1, up v.2.2.2.1 d v.2.1, v.2.2.2.2) else if (v.2.2.2.1 d).1 + v.2.1.1 ≤ 12 then (0, v.2.1, v.2.2.1, up v.2.2.2.1 d (minA (cauA (v.2.2.2.1 d) v.2.1)), v.2.2.2.2) else (1, v.2) := rfl
  by_cases e1 : v.2.2.1 d = 0
  · rw [if_pos e1] at hcl
    rw [hcl, ieq_t (by omega)]
    simp (disch := omega) only [c_bnd, c_chk, c_lb0, c_lb1, c_lb2, c_lb3, L0, L1, L2, L10007, nI_add, pk_mul, ile_t, ile_f, ilt_t, ilt_f, ieq_t, ieq_f, c_rmI, setF_at, setF_ne, setF_setF, true_and, up1_at, up1_ne, pk_sub, pk_cpy_in, pk_cpy_out, Nat.zero_add, Nat.add_zero, Nat.zero_mul, Nat.sub_zero, Nat.add_sub_cancel_left, c_gfR y1 z5, c_gfR y1 z6, c_stZ g5, c_chkO p1.ob]
    have f1 : ∀ x, x ≠ e → x ≠ e + 113 → setF (setF N e (up1 (N e) 7 0)) (e + 113) (up1 (N (e + 113)) d 1) x = N x := fun x hx hx2 => by rw [setF_ne hx2, f0 x hx]
    refine mx_bnd (s_copy p1 hfac (by omega) (X := v.2.1) (CAu_fr hF (fun x a c => f1 x (by omega) (by omega))) hIF.2 hIF.2) ?_
    intro N2 ⟨t1, t2⟩
    refine mx_eq rfl ⟨(cEf.h7.trans (cEf.of (frA.set (a := e + 113) (lo := e + 113) (hi := e + 114) (by omega) (by omega)) (by omega) (by omega))).trans (cEf.of t1 (by omega) (by omega)), hz.of (fun x a c => by rw [t1 x (by omega), f1 x (by omega) (by omega)]), ?_, fun _ k hk => ?_⟩
    · rw [t1 e (by omega), setF_ne (by omega), setF_at, up1_at]
    · obtain ⟨⟨c1, c2, c3⟩, c4, c5, c6⟩ := hV k hk
      have e57 : N2 (e + 57) k = N (e + 57) k := by rw [t1 _ (by omega), f1 _ (by omega) (by omega)]
      have e113 : N2 (e + 113) k = up1 (N (e + 113)) d 1 k := by rw [t1 _ (by omega), setF_at]
      refine ⟨?_, by rw [e57]; exact c4, by rw [e57]; exact c5, fun u => CAu_fr (c6 u) (fun x a c => by rw [t1 x (by omega), f1 x (by omega) (by omega)])⟩
      rw [e113]
      by_cases e2 : k = d
      · subst e2
        refine ⟨by rw [up1_at]; omega, ?_, fun _ => ?_⟩
        · show _ = up1 _ k 1 k
          rw [up1_at, up1_at]
        · show cAu N2 _ (up v.2.2.2.1 k v.2.1 k)
          rw [up_at]
          exact t2
      · refine ⟨by rw [up1_ne e2]; exact c1, ?_, fun u => ?_⟩
        · show _ = up1 _ d 1 k
          rw [up1_ne e2, up1_ne e2]
          exact c2
        · show cAu N2 _ (up v.2.2.2.1 d v.2.1 k)
          have u' : up1 v.2.2.1 d 1 k ≠ 0 := u
          rw [up1_ne e2] at u'
          rw [up_ne e2]
          exact CAu_fr (c3 u') (fun x a c => by rw [t1 x (by omega), f1 x (by omega) (by omega)])
  · rw [if_neg e1] at hcl
    have hP0 : cAu (setF N e (up1 (N e) 7 0)) (e + 59 + 6 * d) (v.2.2.2.1 d) := CAu_fr (b3 e1) (fun x a c => f0 x (by omega))
    rw [ieq_f (by omega) (by omega) (by omega)]
    simp (disch := omega) only [c_bnd, c_chk, c_lb0, c_lb1, c_lb2, c_lb3, L0, L1, L2, L10007, nI_add, pk_mul, ile_t, ile_f, ilt_t, ilt_f, ieq_t, ieq_f, c_rmI, setF_at, setF_ne, setF_setF, true_and, up1_at, up1_ne, pk_sub, pk_cpy_in, pk_cpy_out, Nat.zero_add, Nat.add_zero, Nat.zero_mul, Nat.sub_zero, Nat.add_sub_cancel_left, c_gfI p1.ob, c_gfI hfac.ob, c_gfR y1 z6, (b3 e1).1, hF.1, L12]
    by_cases e2 : (v.2.2.2.1 d).1 + v.2.1.1 ≤ 12
    · rw [if_pos e2] at hcl
      rw [hcl, ile_t e2 (by omega)]
      simp (disch := omega) only [c_bnd, c_chk, c_lb0, c_lb1, c_lb2, c_lb3, L0, L1, L2, L10007, nI_add, pk_mul, ile_t, ile_f, ilt_t, ilt_f, ieq_t, ieq_f, c_rmI, setF_at, setF_ne, setF_setF, true_and, up1_at, up1_ne, pk_sub, pk_cpy_in, pk_cpy_out, Nat.zero_add, Nat.add_zero, Nat.zero_mul, Nat.sub_zero, Nat.add_sub_cancel_left, c_gfR y1 z8, c_gfR y1 z6, c_chkO hjo.ob, c_chkO hb.ob, c_chkO p1.ob]
      refine mx_bnd (s_cau hjo p1 hfac (by omega) (by omega) hP0 hIP.2 hF0 hIF.2 e2 hIP.1 hIF.1) ?_
      intro N2 ⟨t1, t2⟩
      rw [c_gfR y1 z8 (by omega)]
      refine mx_bnd (s_minimize hb hjo (by omega) t2 e2 (cauA_ok hIP.1 hIF.1)) ?_
      intro N3 ⟨t3, t4⟩
      have hm := minA_12 (cauA_ok hIP.1 hIF.1) e2
      rw [c_gfR y1 z8 (by omega)]
      refine mx_bnd (s_copy p1 hjo (by omega) t4 hm.2 hm.2) ?_
      intro N4 ⟨t5, t6⟩
      have fx : ∀ x, x ≠ e → (e ≤ x ∧ x < e + 59 + 6 * d ∨ e + 59 + 6 * d + 6 ≤ x ∧ x < e + 120) → N4 x = N x := fun x hx hx2 => by rw [t5 x (by omega), t3 x (by omega) (by omega), t1 x (by omega), f0 x hx]
      refine mx_eq rfl ⟨((cEf.h7.trans (cEf.of t1 (by omega) (by omega))).trans (cEf.of2 t3 hbe (by omega) (by omega))).trans (cEf.of t5 (by omega) (by omega)), hz.of (fun x a c => fx x (by omega) (by omega)), ?_, fun _ k hk => ?_⟩
      · rw [t5 e (by omega), t3 e (by omega) (by omega), t1 e (by omega), setF_at, up1_at]
      · obtain ⟨⟨c1, c2, c3⟩, c4, c5, c6⟩ := hV k hk
        rw [fx (e + 113) (by omega) (by omega), fx (e + 57) (by omega) (by omega)]
        refine ⟨⟨c1, c2, fun u => ?_⟩, c4, c5, fun u => CAu_fr (c6 u) (fun x a c => fx x (by omega) (by omega))⟩
        show cAu N4 _ (up v.2.2.2.1 d _ k)
        by_cases e3 : k = d
        · subst e3
          rw [up_at]
          exact t6
        · rw [up_ne e3]
          exact CAu_fr (c3 u) (fun x a c => fx x (by omega) (by omega))
    · rw [if_neg e2] at hcl
      have hP12 := hIP.2
      have hF12 := hIF.2
      rw [hcl, ile_f (by omega) (by omega)]
      refine mx_eq rfl ⟨cEf.h7, hz.of (fun x a c => f0 x (by omega)), ?_, fun u => absurd u (show (1 : Nat) ≠ 0 by omega)⟩
      rw [setF_at, up1_at]
theorem k_clP (he : eS Γ R e) (hb : bS Γ R b) (hbe : b + 131 ≤ e) (hd : d ≤ 8) (hv : vI v) (hV : cV N e d v) (hP : v.2.2.1 d ≠ 0) (hz : cSz N e) : Mx (f_X2_closeProduct Γ e (nI d) b (cS N R J)) (fun σ => (nI (1 - (clP d v).1), σ)) R J (fun N' => cEf N N' e b ∧ cSz N' e ∧ N' e 7 = N e 7 ∧ ((clP d v).1 = 0 → cV N' e d (clP d v))) := by
  obtain ⟨⟨y1, y2⟩, ⟨z1, z2, z3, z4, z5, z6, z8⟩, ⟨g1, g2, g3, g4, g5⟩, hk, hfac, hjo⟩ := id he
  obtain ⟨q1, s1, r1, p1⟩ := hk d (by omega)
  obtain ⟨⟨b1, b2, b3⟩, b4, b5, b6⟩ := hV d (Nat.le_refl d)
  have hIP := (hv.2 d).1
  have hIS := (hv.2 d).2
  unfold f_X2_closeProduct
  simp (disch := omega) only [c_bnd, c_chk, c_lb0, c_lb1, c_lb2, c_lb3, L0, L1, L2, L10007, nI_add, pk_mul, ile_t, ile_f, ilt_t, ilt_f, ieq_t, ieq_f, c_rmI, setF_at, setF_ne, setF_setF, true_and, up1_at, up1_ne, pk_sub, pk_cpy_in, pk_cpy_out, Nat.zero_add, Nat.add_zero, Nat.zero_mul, Nat.sub_zero, Nat.add_sub_cancel_left, c_gfR y1 z4, c_gfR y1 z2, c_gfR y1 z5, c_gfR y1 z3, c_ldA g4 r1, c_ldA g2 q1, c_stZ g5, c_ldZ g3]
  have f0 : ∀ x, x ≠ e + 113 → setF N (e + 113) (up1 (N (e + 113)) d 0) x = N x := fun x hx => setF_ne hx
  have hP0 : cAu (setF N (e + 113) (up1 (N (e + 113)) d 0)) (e + 59 + 6 * d) (v.2.2.2.1 d) := CAu_fr (b3 hP) (fun x a c => f0 x (by omega))
  have ef0 : cEf N (setF N (e + 113) (up1 (N (e + 113)) d 0)) e b := cEf.of (frA.set (a := e + 113) (lo := e + 113) (hi := e + 114) (by omega) (by omega)) (by omega) (by omega)
  have hcl : clP d v = if v.2.2.2.2.1 d = 0 then (0, v.2.1, up1 v.2.2.1 d 0, v.2.2.2.1, up1 v.2.2.2.2.1 d 1, up v.2.2.2.2.2 d (v.2.2.2.1 d)) else if (v.2.2.2.2.2 d).1 + (v.2.2.2.1 d).1 ≤ 12 then (0, v.2.1, up1 v.2.2.1 d 0, v.2.2.2.1, v.2.2.2.2.1, up v.2.2.2.2.2 d (minA (sumA (v.2.2.2.2.2 d) (v.2.2.2.1 d)))) else (1, v.2) := rfl
  -- the products' marks
  have pr : ∀ k, k ≤ d → ∀ N9 : Mem, N9 (e + 113) k = up1 (N (e + 113)) d 0 k → (∀ x, e + 59 ≤ x → x < e + 113 → N9 x = N x) → N9 (e + 113) k < 2 ∧ N9 (e + 113) k = up1 v.2.2.1 d 0 k ∧ (up1 v.2.2.1 d 0 k ≠ 0 → cAu N9 (e + 59 + 6 * k) (v.2.2.2.1 k)) := by
    intro k hk N9 h9 f9
    obtain ⟨⟨c1, c2, c3⟩, _⟩ := hV k hk
    rw [h9]
    by_cases e2 : k = d
    · subst e2
      rw [up1_at, up1_at]
      exact ⟨by omega, rfl, fun u => absurd rfl u⟩
    · rw [up1_ne e2, up1_ne e2]
      exact ⟨c1, c2, fun u => CAu_fr (c3 u) (fun x a c => f9 x (by omega) (by omega))⟩
  by_cases e1 : v.2.2.2.2.1 d = 0
  · rw [if_pos e1] at hcl
    rw [hcl, ieq_t (by omega)]
    simp (disch := omega) only [c_bnd, c_chk, c_lb0, c_lb1, c_lb2, c_lb3, L0, L1, L2, L10007, nI_add, pk_mul, ile_t, ile_f, ilt_t, ilt_f, ieq_t, ieq_f, c_rmI, setF_at, setF_ne, setF_setF, true_and, up1_at, up1_ne, pk_sub, pk_cpy_in, pk_cpy_out, Nat.zero_add, Nat.add_zero, Nat.zero_mul, Nat.sub_zero, Nat.add_sub_cancel_left, c_gfR y1 z3, c_stZ g3, c_chkO s1.ob]
    have f1 : ∀ x, x ≠ e + 57 → x ≠ e + 113 → setF (setF N (e + 113) (up1 (N (e + 113)) d 0)) (e + 57) (up1 (N (e + 57)) d 1) x = N x := fun x hx hx2 => by rw [setF_ne hx, f0 x hx2]
    refine mx_bnd (s_copy s1 p1 (by omega) (X := v.2.2.2.1 d) (CAu_fr (b3 hP) (fun x a c => f1 x (by omega) (by omega))) hIP.2 hIP.2) ?_
    intro N2 ⟨t1, t2⟩
    refine mx_eq rfl ⟨(ef0.trans (cEf.of (frA.set (a := e + 57) (lo := e + 57) (hi := e + 58) (by omega) (by omega)) (by omega) (by omega))).trans (cEf.of t1 (by omega) (by omega)), fun k hk => ?_, ?_, fun _ k hk => ⟨pr k hk N2 (by rw [t1 _ (by omega), setF_ne (by omega), setF_at]) (fun x a c => by rw [t1 x (by omega), f1 x (by omega) (by omega)]), ?_⟩⟩
    · by_cases e2 : k = d
      · subst e2
        rw [t2.1]
        exact hIP.2
      · rw [t1 _ (by omega), f1 _ (by omega) (by omega)]
        exact hz k hk
    · rw [t1 e (by omega), f1 e (by omega) (by omega)]
    · obtain ⟨_, c4, c5, c6⟩ := hV k hk
      have e57 : N2 (e + 57) k = up1 (N (e + 57)) d 1 k := by rw [t1 _ (by omega), setF_at]
      rw [e57]
      by_cases e2 : k = d
      · subst e2
        refine ⟨by rw [up1_at]; omega, ?_, fun _ => ?_⟩
        · show _ = up1 _ k 1 k
          rw [up1_at, up1_at]
        · show cAu N2 _ (up v.2.2.2.2.2 k _ k)
          rw [up_at]
          exact t2
      · refine ⟨by rw [up1_ne e2]; exact c4, ?_, fun u => ?_⟩
        · show _ = up1 _ d 1 k
          rw [up1_ne e2, up1_ne e2]
          exact c5
        · show cAu N2 _ (up v.2.2.2.2.2 d _ k)
          have u' : up1 v.2.2.2.2.1 d 1 k ≠ 0 := u
          rw [up1_ne e2] at u'
          rw [up_ne e2]
          exact CAu_fr (c6 u') (fun x a c => by rw [t1 x (by omega), f1 x (by omega) (by omega)])
  · rw [if_neg e1] at hcl
    have hS0 : cAu (setF N (e + 113) (up1 (N (e + 113)) d 0)) (e + 3 + 6 * d) (v.2.2.2.2.2 d) := CAu_fr (b6 e1) (fun x a c => f0 x (by omega))
    rw [ieq_f (by omega) (by omega) (by omega)]
    simp (disch := omega) only [c_bnd, c_chk, c_lb0, c_lb1, c_lb2, c_lb3, L0, L1, L2, L10007, nI_add, pk_mul, ile_t, ile_f, ilt_t, ilt_f, ieq_t, ieq_f, c_rmI, setF_at, setF_ne, setF_setF, true_and, up1_at, up1_ne, pk_sub, pk_cpy_in, pk_cpy_out, Nat.zero_add, Nat.add_zero, Nat.zero_mul, Nat.sub_zero, Nat.add_sub_cancel_left, c_gfI p1.ob, c_gfI s1.ob, (b3 hP).1, (b6 e1).1, L12]
    by_cases e2 : (v.2.2.2.2.2 d).1 + (v.2.2.2.1 d).1 ≤ 12
    · rw [if_pos e2] at hcl
      rw [hcl, ile_t e2 (by omega)]
      simp (disch := omega) only [c_bnd, c_chk, c_lb0, c_lb1, c_lb2, c_lb3, L0, L1, L2, L10007, nI_add, pk_mul, ile_t, ile_f, ilt_t, ilt_f, ieq_t, ieq_f, c_rmI, setF_at, setF_ne, setF_setF, true_and, up1_at, up1_ne, pk_sub, pk_cpy_in, pk_cpy_out, Nat.zero_add, Nat.add_zero, Nat.zero_mul, Nat.sub_zero, Nat.add_sub_cancel_left, c_gfR y1 z8, c_chkO hjo.ob, c_chkO hb.ob, c_chkO s1.ob]
      refine mx_bnd (s_sum hjo s1 p1 (by omega) (by omega) hS0 hIS.2 hP0 hIP.2 e2) ?_
      intro N2 ⟨t1, t2⟩
      rw [c_gfR y1 z8 (by omega)]
      refine mx_bnd (s_minimize hb hjo (by omega) t2 e2 (sumA_ok hIS.1 hIP.1)) ?_
      intro N3 ⟨t3, t4⟩
      have hm := minA_12 (sumA_ok hIS.1 hIP.1) e2
      rw [c_gfR y1 z8 (by omega)]
      refine mx_bnd (s_copy s1 hjo (by omega) t4 hm.2 hm.2) ?_
      intro N4 ⟨t5, t6⟩
      have fx : ∀ x, x ≠ e + 113 → (e ≤ x ∧ x < e + 3 + 6 * d ∨ e + 3 + 6 * d + 6 ≤ x ∧ x < e + 120) → N4 x = N x := fun x hx hx2 => by rw [t5 x (by omega), t3 x (by omega) (by omega), t1 x (by omega), f0 x hx]
      refine mx_eq rfl ⟨((ef0.trans (cEf.of t1 (by omega) (by omega))).trans (cEf.of2 t3 hbe (by omega) (by omega))).trans (cEf.of t5 (by omega) (by omega)), fun k hk => ?_, ?_, fun _ k hk => ⟨pr k hk N4 (by rw [t5 _ (by omega), t3 _ (by omega) (by omega), t1 _ (by omega), setF_at]) (fun x a c => fx x (by omega) (by omega)), ?_⟩⟩
      · by_cases e2 : k = d
        · subst e2
          rw [t6.1]
          exact hm.2
        · rw [fx _ (by omega) (by omega)]
          exact hz k hk
      · rw [fx e (by omega) (by omega)]
      · obtain ⟨_, c4, c5, c6⟩ := hV k hk
        rw [fx (e + 57) (by omega) (by omega)]
        refine ⟨c4, c5, fun u => ?_⟩
        show cAu N4 _ (up v.2.2.2.2.2 d _ k)
        by_cases e3 : k = d
        · subst e3
          rw [up_at]
          exact t6
        · rw [up_ne e3]
          exact CAu_fr (c6 u) (fun x a c => fx x (by omega) (by omega))
    · rw [if_neg e2] at hcl
      have hP12 := hIP.2
      have hS12 := hIS.2
      rw [hcl, ile_f (by omega) (by omega)]
      refine mx_eq rfl ⟨ef0, hz.of (fun x a c => f0 x (by omega)), ?_, fun u => absurd u (show (1 : Nat) ≠ 0 by omega)⟩
      rw [f0 e (by omega)]
theorem k_rep (he : eS Γ R e) (hb : bS Γ R b) (hbe : b + 131 ≤ e) (hd : d ≤ 8) (hv : vI v) (hV : cV N e d v) (hF : cAu N (e + 114) v.2.1) (hz : cSz N e) : Mx (f_X2_repeatFactor Γ e b (cS N R J)) (fun σ => (nI (1 - (vsF v).1), σ)) R J (fun N' => cEf N N' e b ∧ cSz N' e ∧ N' e 7 = N e 7 ∧ ((vsF v).1 = 0 → cV N' e d (vsF v) ∧ cAu N' (e + 114) (vsF v).2.1)) := by
  obtain ⟨⟨y1, y2⟩, ⟨z1, z2, z3, z4, z5, z6, z8⟩, ⟨g1, g2, g3, g4, g5⟩, hk, hfac, hjo⟩ := id he
  have hIF := hv.1
  have hcl : vsF v = if v.2.1.1 < 12 ∧ wtA v.2.1 v.2.1.2.1 = 0 then (0, minA (staA v.2.1), v.2.2) else (1, v.2) := rfl
  unfold f_X2_repeatFactor
  simp (disch := omega) only [c_bnd, c_chk, c_lb0, c_lb1, c_lb2, c_lb3, L0, L1, L2, L10007, nI_add, pk_mul, ile_t, ile_f, ilt_t, ilt_f, ieq_t, ieq_f, c_rmI, setF_at, setF_ne, setF_setF, true_and, up1_at, up1_ne, pk_sub, pk_cpy_in, pk_cpy_out, Nat.zero_add, Nat.add_zero, Nat.zero_mul, Nat.sub_zero, Nat.add_sub_cancel_left, c_gfR y1 z6, c_chkO hfac.ob]
  rw [s_hasStar hfac hF hIF.2 hIF.1, c_bnd]
  by_cases e1 : v.2.1.1 < 12 ∧ wtA v.2.1 v.2.1.2.1 = 0
  · rw [if_pos e1] at hcl
    have h12 : (staA v.2.1).1 ≤ 12 := by show v.2.1.1 + 1 ≤ 12; omega
    rw [hcl, if_pos e1, ieq_f (by omega) (by omega) (by omega)]
    simp (disch := omega) only [c_bnd, c_chk, c_lb0, c_lb1, c_lb2, c_lb3, L0, L1, L2, L10007, nI_add, pk_mul, ile_t, ile_f, ilt_t, ilt_f, ieq_t, ieq_f, c_rmI, setF_at, setF_ne, setF_setF, true_and, up1_at, up1_ne, pk_sub, pk_cpy_in, pk_cpy_out, Nat.zero_add, Nat.add_zero, Nat.zero_mul, Nat.sub_zero, Nat.add_sub_cancel_left, c_gfR y1 z8, c_gfR y1 z6, c_chkO hjo.ob, c_chkO hb.ob, c_chkO hfac.ob]
    refine mx_bnd (s_star hjo hfac (by omega) hF hIF.2 h12 hIF.1) ?_
    intro N2 ⟨t1, t2⟩
    rw [c_gfR y1 z8 (by omega)]
    refine mx_bnd (s_minimize hb hjo (by omega) t2 h12 (staA_ok hIF.1)) ?_
    intro N3 ⟨t3, t4⟩
    have hm := minA_12 (staA_ok hIF.1) h12
    rw [c_gfR y1 z6 (by omega), c_gfR y1 z8 (by omega), c_chkO hfac.ob]
    refine mx_bnd (s_copy hfac hjo (by omega) t4 hm.2 hm.2) ?_
    intro N4 ⟨t5, t6⟩
    have fx : ∀ x, e ≤ x → x < e + 114 → N4 x = N x := fun x hx hx2 => by rw [t5 x (by omega), t3 x (by omega) (by omega), t1 x (by omega)]
    exact mx_eq rfl ⟨((cEf.of t1 (by omega) (by omega)).trans (cEf.of2 t3 hbe (by omega) (by omega))).trans (cEf.of t5 (by omega) (by omega)), hz.of (fun x a c => fx x (by omega) (by omega)), by rw [fx e (by omega) (by omega)], fun _ => ⟨hV.fr hd (fun x a c => fx x (by omega) c), t6⟩⟩
  · rw [if_neg e1] at hcl
    rw [hcl, if_neg e1, ieq_t rfl]
    exact mx_eq rfl ⟨cEf.refl, hz, rfl, fun u => absurd u (show (1 : Nat) ≠ 0 by omega)⟩
theorem k_open (he : eS Γ R e) (hd : d ≤ 8) (hz : cSz N e) : Mx (f_X2_open Γ e (nI d) (cS N R J)) (fun σ => ((), σ)) R J (fun N' => cEf N N' e b ∧ cSz N' e ∧ N' e = N e ∧ (∀ x, x ≠ e + 57 → x ≠ e + 113 → N' x = N x) ∧ N' (e + 57) = up1 (N (e + 57)) d 0 ∧ N' (e + 113) = up1 (N (e + 113)) d 0) := by
  obtain ⟨⟨y1, y2⟩, ⟨z1, z2, z3, z4, z5, z6, z8⟩, ⟨g1, g2, g3, g4, g5⟩, hk, hfac, hjo⟩ := id he
  unfold f_X2_open
  simp (disch := omega) only [c_bnd, c_chk, c_lb0, c_lb1, c_lb2, c_lb3, L0, L1, L2, L10007, nI_add, pk_mul, ile_t, ile_f, ilt_t, ilt_f, ieq_t, ieq_f, c_rmI, setF_at, setF_ne, setF_setF, true_and, up1_at, up1_ne, pk_sub, pk_cpy_in, pk_cpy_out, Nat.zero_add, Nat.add_zero, Nat.zero_mul, Nat.sub_zero, Nat.add_sub_cancel_left, c_gfR y1 z3, c_gfR y1 z5, c_stZ g3, c_stZ g5]
  refine mx_eq rfl ⟨(cEf.of (frA.set (a := e + 57) (lo := e + 57) (hi := e + 58) (by omega) (by omega)) (by omega) (by omega)).trans (cEf.of (frA.set (a := e + 113) (lo := e + 113) (hi := e + 114) (by omega) (by omega)) (by omega) (by omega)), hz.of (fun x a c => by rw [setF_ne (by omega), setF_ne (by omega)]), by rw [setF_ne (by omega), setF_ne (by omega)], fun x a c => by rw [setF_ne c, setF_ne a], by rw [setF_ne (by omega), setF_at], by rw [setF_at]⟩
theorem k_beg (he : eS Γ R e) (hz : cSz N e) (hc : c < 128) : Mx (f_X2_beginFactor Γ e (nI c) (cS N R J)) (fun σ => ((), σ)) R J (fun N' => cEf N N' e b ∧ cSz N' e ∧ N' e 7 = 1 ∧ (∀ x, e + 3 ≤ x → x < e + 114 → N' x = N x) ∧ cAu N' (e + 114) (vsB v c).2.1) := by
  obtain ⟨⟨y1, y2⟩, ⟨z1, z2, z3, z4, z5, z6, z8⟩, ⟨g1, g2, g3, g4, g5⟩, hk, hfac, hjo⟩ := id he
  unfold f_X2_beginFactor f_X2_beginFactor_L39 f_X2_beginFactor_L36 f_X2_beginFactor_L39
  rw [k_dig hc, c_bnd]
  have fin : ∀ (N2 : Mem) (B : Au), frA N N2 (e + 114) (e + 114 + 6) → cAu N2 (e + 114) B → (vsB v c).2.1 = B → Mx (pfZ Γ (cS N2 R J) e 2 7 1 fun σ5 => some ((), σ5)) (fun σ => ((), σ)) R J (fun N' => cEf N N' e b ∧ cSz N' e ∧ N' e 7 = 1 ∧ (∀ x, e + 3 ≤ x → x < e + 114 → N' x = N x) ∧ cAu N' (e + 114) (vsB v c).2.1) := by
    intro N2 B t1 t2 hB
    have fx : ∀ x, e + 3 ≤ x → x < e + 114 → setF N2 e (up1 (N2 e) 7 1) x = N x := fun x a c => by rw [setF_ne (by omega), t1 x (by omega)]
    rw [L1, c_pfZ y1 (by omega), hB]
    exact mx_eq rfl ⟨(cEf.of t1 (by omega) (by omega)).trans cEf.h7, hz.of (fun x a c => fx x (by omega) (by omega)), by rw [setF_at, up1_at], fx, CAu_fr t2 (fun x a c => setF_ne (by omega))⟩
  by_cases h : isDg c
  · rw [b01_t h, if_neg m1n0, c_gfR y1 z6 (by omega), c_chkO hfac.ob, L48, pk_sub h.1]
    refine mx_bnd (s_number hfac (by omega)) ?_
    intro N2 ⟨t1, t2⟩
    exact fin N2 _ t1 t2 (if_pos h)
  · rw [b01_f h, if_pos m0e, c_gfR y1 z6 (by omega), L98, L1, L0]
    by_cases e98 : c = 98
    · rw [ieq_t e98, c_chkO hfac.ob]
      refine mx_bnd (s_letter hfac (by omega) (c := 1) (by omega)) ?_
      intro N2 ⟨t1, t2⟩
      exact fin N2 _ t1 t2 (by show (if isDg c then _ else _) = _; rw [if_neg h, if_pos e98])
    · rw [ieq_f e98 (by omega) (by omega), c_chkO hfac.ob]
      refine mx_bnd (s_letter hfac (by omega) (c := 0) (by omega)) ?_
      intro N2 ⟨t1, t2⟩
      exact fin N2 _ t1 t2 (by show (if isDg c then _ else _) = _; rw [if_neg h, if_neg e98])
end CE
