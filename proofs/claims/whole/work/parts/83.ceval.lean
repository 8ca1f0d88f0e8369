/-! ===== the class's expression: its evaluation ===== -/
def eR (N : Mem) (e : Nat) (s : syS) (v : vs) : Prop := cV N e s.1 v ∧ N e 7 = s.2.2 ∧ (s.2.2 = 1 → cAu N (e + 114) v.2.1)
def rdA (N : Mem) (a : Nat) : Au := (N a 0, N (a + 1), N (a + 2), fun l i j => N (a + 4 + l) (i * N a 0 + j))
theorem rdA_c {N : Mem} {a : Nat} : cAu N a (rdA N a) := ⟨rfl, fun _ _ => ⟨rfl, rfl, fun _ _ _ _ => rfl⟩⟩
noncomputable def fnV (t : Nat → Nat) (n : Nat) : vs := if (vlT t n).1 = 0 then cl2 0 (vlT t n) else vlT t n
theorem fl_vsF {v : vs} : (vsF v).1 ≤ 1 := by
  unfold vsF
  by_cases e1 : v.2.1.1 < 12 ∧ wtA v.2.1 v.2.1.2.1 = 0
  · rw [if_pos e1]; exact Nat.zero_le _
  · rw [if_neg e1]; exact Nat.le_refl _
theorem vl_stop {t : Nat → Nat} {i : Nat} (h : (vlT t i).1 ≠ 0) : ∀ m, vlT t (i + m) = vlT t i := by
  intro m
  induction m with
  | zero => rfl
  | succ m ih =>
    show vsN (vlT t (i + m)) _ _ = _
    rw [ih]
    exact if_neg h
theorem clP_hS {d : Nat} {v : vs} : (clP d v).1 = 0 → (clP d v).2.2.2.2.1 d ≠ 0 := by
  unfold clP
  by_cases e1 : v.2.2.2.2.1 d = 0
  · rw [if_pos e1]
    intro _
    show up1 _ d 1 d ≠ 0
    rw [up1_at]
    omega
  · rw [if_neg e1]
    by_cases e2 : (v.2.2.2.2.2 d).1 + (v.2.2.2.1 d).1 ≤ 12
    · rw [if_pos e2]
      exact fun _ => e1
    · rw [if_neg e2]
      exact fun u => absurd u (show (1 : Nat) ≠ 0 by omega)
section EV
variable {Γ : zSh} {N N' N1 R : Mem} {J : Nat → Nat → Int64} {e b d c i : Nat} {v : vs} {s : syS}
theorem k_clE (he : eS Γ R e) (hb : bS Γ R b) (hbe : b + 131 ≤ e) (hd : s.1 ≤ 8) (hst : s.2.2 ≤ 1) (hv : vI v) (hR : eR N e s v) (h0 : v.1 = 0) (hz : cSz N e) : Mx (f_X2_closeFactor Γ e (nI s.1) b (cS N R J)) (fun σ => (nI (1 - (vsE s v).1), σ)) R J (fun N' => cEf N N' e b ∧ cSz N' e ∧ N' e 7 = 0 ∧ ((vsE s v).1 = 0 → cV N' e s.1 (vsE s v))) := by
  obtain ⟨r1, r2, r3⟩ := hR
  unfold vsE
  by_cases e1 : s.2.2 = 1
  · rw [if_pos e1]
    exact k_clF he hb hbe hd hv r1 (r3 e1) hz (by rw [r2, e1])
  · rw [if_neg e1]
    have e0 : N e 7 = 0 := by rw [r2]; omega
    unfold f_X2_closeFactor
    rw [c_gfI he.1.1, e0, if_pos m0e, h0]
    exact mx_eq rfl ⟨cEf.refl, hz, e0, fun _ => r1⟩
theorem k_L211 (he : eS Γ R e) (hb : bS Γ R b) (hbe : b + 131 ≤ e) (hd : s.1 ≤ 8) (hst : s.2.2 ≤ 1) (hv : vI v) (hR : eR N e s v) (h0 : v.1 = 0) (hz : cSz N e) (hc : c < 128) (h40 : c = 40 → s.1 < 8) (h41 : c ≠ 41) (h43 : c ≠ 43) {w : vs} (hw : w = if (vsE s v).1 = 0 then (if c = 40 then vsO s.1 (vsE s v) else vsB (vsE s v) c) else vsE s v) : ∃ N' dd r, f_X2_evaluate_B17_L211 Γ e b (nI s.1) (nI i) (nI c) (cS N R J) = some (.inl (dd, r, nI (i + 1), cS N' R J)) ∧ cEf N N' e b ∧ cSz N' e ∧ ((w.1 = 0 ∧ dd = nI (syN s c).1 ∧ r = nI 1 ∧ eR N' e (syN s c) w) ∨ (w.1 ≠ 0 ∧ r = nI 0)) := by
  have y1 := he.1.1
  unfold f_X2_evaluate_B17_L211 f_X2_evaluate_B17_L248
  obtain ⟨N1, t0, t1, t2, t3, t4⟩ := k_clE (J := J) he hb hbe hd hst hv hR h0 hz
  have hfl : (vsE s v).1 ≤ 1 := by
    unfold vsE
    by_cases e1 : s.2.2 = 1
    · rw [if_pos e1]; exact fl_clF
    · rw [if_neg e1, h0]; omega
  rw [c_chkO y1, t0, c_bnd, L40]
  by_cases e40 : c = 40
  · have hd8 := h40 e40
    have hite : (if (8 : Int32) < nI s.1 + 1 then (8 : Int32) else nI s.1 + 1) = nI (s.1 + 1) := by
      rw [L8, L1, nI_add, if_neg (nI_nlt (by omega) (by omega))]
    obtain ⟨N2, u0, u1, u2, u3, u4, u5, u6⟩ := k_open (J := J) (b := b) he (d := s.1 + 1) (by omega) t2
    rw [ieq_t e40, c_chkO y1, hite, u0, c_bnd, L1, nI_add]
    refine ⟨N2, _, _, rfl, t1.trans u1, u2, ?_⟩
    by_cases e1 : (vsE s v).1 = 0
    · rw [if_pos e1, if_pos e40] at hw
      have hV := t4 e1
      have s1 : (syN s c).1 = s.1 + 1 := if_pos e40
      have s3 : (syN s c).2.2 = 0 := if_pos (Or.inl e40)
      refine Or.inl ⟨by rw [hw]; rfl, by rw [s1], by rw [e1], ?_, ?_, fun u => absurd u (by rw [s3]; omega)⟩
      · rw [hw, s1]
        intro k hk
        by_cases e2 : k = s.1 + 1
        · subst e2
          rw [u5, u6]
          show (_ ∧ _ = up1 _ (s.1 + 1) 0 (s.1 + 1) ∧ (up1 _ (s.1 + 1) 0 (s.1 + 1) ≠ 0 → _)) ∧ _ ∧ _ = up1 _ (s.1 + 1) 0 (s.1 + 1) ∧ (up1 _ (s.1 + 1) 0 (s.1 + 1) ≠ 0 → _)
          rw [up1_at, up1_at, up1_at, up1_at]
          exact ⟨⟨by omega, rfl, fun u => absurd rfl u⟩, by omega, rfl, fun u => absurd rfl u⟩
        · obtain ⟨⟨c1, c2, c3⟩, c4, c5, c6⟩ := hV k (by omega)
          rw [u5, u6]
          show (_ ∧ _ = up1 _ (s.1 + 1) 0 k ∧ (up1 _ (s.1 + 1) 0 k ≠ 0 → _)) ∧ _ ∧ _ = up1 _ (s.1 + 1) 0 k ∧ (up1 _ (s.1 + 1) 0 k ≠ 0 → _)
          rw [up1_ne e2, up1_ne e2, up1_ne e2, up1_ne e2]
          exact ⟨⟨c1, c2, fun u => CAu_fr (c3 u) (fun x a c => u4 x (by omega) (by omega))⟩, c4, c5, fun u => CAu_fr (c6 u) (fun x a c => u4 x (by omega) (by omega))⟩
      · rw [u3, t3, s3]
    · rw [if_neg e1] at hw
      rw [hw]
      exact Or.inr ⟨e1, by rw [show 1 - (vsE s v).1 = 0 by omega]⟩
  · rw [ieq_f e40 (by omega) (by omega), c_chkO y1]
    obtain ⟨N2, u0, u1, u2, u3, u4, u5⟩ := k_beg (J := J) (b := b) (v := vsE s v) he t2 hc
    rw [u0, c_bnd, L1, nI_add]
    refine ⟨N2, _, _, rfl, t1.trans u1, u2, ?_⟩
    by_cases e1 : (vsE s v).1 = 0
    · rw [if_pos e1, if_neg e40] at hw
      have s1 : (syN s c).1 = s.1 := by
        show (if c = 40 then _ else if c = 41 then _ else _) = _
        rw [if_neg e40, if_neg h41]
      have s3 : (syN s c).2.2 = 1 := if_neg (by omega)
      refine Or.inl ⟨by rw [hw]; rfl, by rw [s1], by rw [e1], ?_, by rw [u3, s3], fun _ => by rw [hw]; exact u5⟩
      rw [hw, s1]
      exact (t4 e1).fr hd u4
    · rw [if_neg e1] at hw
      rw [hw]
      exact Or.inr ⟨e1, by rw [show 1 - (vsE s v).1 = 0 by omega]⟩
theorem k_L119 (he : eS Γ R e) (hd : d ≤ 8) (hd1 : 1 ≤ d) (hz : cSz N e) {A : Au} (hA : cAu N (e + 3 + 6 * d) A) (h12 : A.1 ≤ 12) {r : Int32} : ∃ N', f_X2_evaluate_B17_L119 Γ e b (nI d) (nI i) r (cS N R J) = some (.inl (nI (d - 1), r, nI (i + 1), cS N' R J)) ∧ cEf N N' e b ∧ cSz N' e ∧ N' e 7 = 1 ∧ (∀ x, e + 3 ≤ x → x < e + 114 → N' x = N x) ∧ cAu N' (e + 114) A := by
  obtain ⟨⟨y1, y2⟩, ⟨z1, z2, z3, z4, z5, z6, z8⟩, ⟨g1, g2, g3, g4, g5⟩, hk, hfac, hjo⟩ := id he
  obtain ⟨q1, s1, _, _⟩ := hk d (by omega)
  unfold f_X2_evaluate_B17_L119 f_X2_evaluate_B17_L248
  have hite : (if nI d - 1 < (0 : Int32) then (0 : Int32) else nI d - 1) = nI (d - 1) := by
    rw [L1, pk_sub hd1, L0, if_neg (nI_nlt (by omega) (by omega))]
  obtain ⟨N1, t0, t1, t2⟩ := s_copy (J := J) hfac s1 (by omega) hA h12 h12
  rw [c_gfR y1 z6 (by omega), c_gfR y1 z2 (by omega), c_ldA g2 q1 (by omega) (by omega) (by omega), c_chkO hfac.ob, t0, c_bnd, hite, L1, c_pfZ y1 (by omega), nI_add]
  have fx : ∀ x, e + 3 ≤ x → x < e + 114 → setF N1 e (up1 (N1 e) 7 1) x = N x := fun x a c => by rw [setF_ne (by omega), t1 x (by omega)]
  exact ⟨_, rfl, (cEf.of t1 (by omega) (by omega)).trans cEf.h7, hz.of (fun x a c => fx x (by omega) (by omega)), by rw [setF_at, up1_at], fx, CAu_fr t2 (fun x a c => setF_ne (by omega))⟩
theorem k_ev1 (he : eS Γ R e) (hb : bS Γ R b) (hbe : b + 131 ≤ e) {n c' : Nat} (hz : cSz N e) (hR : eR N e s v) (h0 : v.1 = 0) (hI : vI v) (hs : s.1 ≤ 8 ∧ s.2.1 ≤ 4 ∧ s.2.2 ≤ 1) (hbad : badN s c = 0) (hn : N e 1 = n) (hn60 : n ≤ 60) (hi : i < n) (hc : N (e + 1) i = c) (hc128 : c < 128) (hc' : N (e + 1) (i - 1) = c') (hc'128 : 0 < i → c' < 128) (hg : 0 < s.2.1 ↔ 0 < i ∧ isDg c') (hst : 0 < s.2.1 → s.2.2 = 1) (hnum : 0 < s.2.1 → ∃ w, v.2.1 = numA w ∧ w < 10 ^ s.2.1) : ∃ N' dd r, f_X2_evaluate_B17 Γ e b (nI s.1) (nI 1) (nI i) (cS N R J) = some (.inl (dd, r, nI (i + 1), cS N' R J)) ∧ cEf N N' e b ∧ cSz N' e ∧ (((vsN v s c).1 = 0 ∧ dd = nI (syN s c).1 ∧ r = nI 1 ∧ eR N' e (syN s c) (vsN v s c)) ∨ ((vsN v s c).1 ≠ 0 ∧ r = nI 0)) := by
  obtain ⟨⟨y1, y2⟩, ⟨z1, z2, z3, z4, z5, z6, z8⟩, ⟨g1, g2, g3, g4, g5⟩, hk, hfac, hjo⟩ := id he
  obtain ⟨hV, h7, hF⟩ := id hR
  obtain ⟨hd, hg4, hst1⟩ := hs
  have hv0 : vsN v s c = if c = 42 then vsF v else if c = 43 then cl2 s.1 v else if c = 41 then vsC s.1 (cl2 s.1 v) else if isDg c ∧ 0 < s.2.1 then (0, numA (10 * v.2.1.2.2.1 0 + c - 48), v.2.2) else if (vsE s v).1 = 0 then (if c = 40 then vsO s.1 (vsE s v) else vsB (vsE s v) c) else vsE s v := if_pos h0
  have sy1 : (syN s c).1 = if c = 40 then s.1 + 1 else if c = 41 then s.1 - 1 else s.1 := rfl
  have sy3 : (syN s c).2.2 = if c = 40 ∨ c = 43 then 0 else 1 := rfl
  unfold f_X2_evaluate_B17
  rw [c_gfI y1, hn, ile_f hi (by omega), if_neg m1n0, c_gfR y1 z1 (by omega), c_ldI g1 (by omega) (by omega), hc, L42, L43, L41]
  by_cases c42 : c = 42
  · have hst' : s.2.2 = 1 := by
      rw [bad_op (Or.inl c42)] at hbad
      rcases Nat.eq_zero_or_pos (if s.2.2 = 1 then 0 else 1) with _ | u
      · by_cases u : s.2.2 = 1
        · exact u
        · rw [if_neg u] at hbad; omega
      · omega
    rw [if_pos c42] at hv0
    rw [if_neg (by omega), if_neg (by omega)] at sy1
    rw [if_neg (by omega)] at sy3
    obtain ⟨N1, t0, t1, t2, t3, t4⟩ := k_rep (J := J) he hb hbe hd hI hV (hF hst') hz
    unfold f_X2_evaluate_B17_L248
    rw [ieq_t c42, c_chkO y1, t0, c_bnd, L1, nI_add, hv0]
    have hfl := fl_vsF (v := v)
    refine ⟨N1, _, _, rfl, t1, t2, ?_⟩
    by_cases e1 : (vsF v).1 = 0
    · exact Or.inl ⟨e1, by rw [sy1], by rw [e1], by rw [sy1]; exact (t4 e1).1, by rw [t3, h7, hst', sy3], fun _ => (t4 e1).2⟩
    · exact Or.inr ⟨e1, by rw [show 1 - (vsF v).1 = 0 by omega]⟩
  rw [ieq_f c42 (by omega) (by omega)]
  rw [if_neg c42] at hv0
  by_cases c43 : c = 43
  · have hst' : s.2.2 = 1 := by
      rw [bad_op (Or.inr c43)] at hbad
      by_cases u : s.2.2 = 1
      · exact u
      · rw [if_neg u] at hbad; omega
    rw [if_pos c43] at hv0
    rw [if_neg (by omega), if_neg (by omega)] at sy1
    rw [if_pos (Or.inr c43)] at sy3
    obtain ⟨N1, t0, t1, t2, t3, t4⟩ := k_clF (J := J) he hb hbe hd hI hV (hF hst') hz (by rw [h7, hst'])
    have hfl := fl_clF (d := s.1) (v := v)
    rw [ieq_t c43, c_chkO y1, t0, c_bnd, hv0]
    unfold f_X2_evaluate_B17_L84 f_X2_evaluate_B17_L85 f_X2_evaluate_B17_L248
    by_cases e1 : (clF s.1 v).1 = 0
    · obtain ⟨N2, u0, u1, u2, u3, u4⟩ := k_clP (J := J) he hb hbe hd (clF_I hI) (t4 e1) (clF_hP e1) t2
      have hfl2 := fl_clP (d := s.1) (v := clF s.1 v)
      have hc2 : cl2 s.1 v = clP s.1 (clF s.1 v) := if_pos e1
      rw [show 1 - (clF s.1 v).1 = 1 by omega, if_neg m1n0, c_chkO y1, u0, c_bnd, hc2, L1, nI_add]
      by_cases e2 : (clP s.1 (clF s.1 v)).1 = 0
      · rw [show 1 - (clP s.1 (clF s.1 v)).1 = 1 by omega, if_neg m1n0]
        exact ⟨N2, _, _, rfl, t1.trans u1, u2, Or.inl ⟨e2, by rw [sy1], rfl, by rw [sy1]; exact u4 e2, by rw [u3, t3, sy3], fun u => absurd u (by rw [sy3]; omega)⟩⟩
      · rw [show 1 - (clP s.1 (clF s.1 v)).1 = 0 by omega, if_pos m0e]
        exact ⟨N2, _, _, rfl, t1.trans u1, u2, Or.inr ⟨e2, rfl⟩⟩
    · have hc2 : cl2 s.1 v = clF s.1 v := if_neg e1
      rw [show 1 - (clF s.1 v).1 = 0 by omega, if_pos m0e, hc2, L1, nI_add]
      exact ⟨N1, _, _, rfl, t1, t2, Or.inr ⟨e1, rfl⟩⟩
  rw [ieq_f c43 (by omega) (by omega)]
  rw [if_neg c43] at hv0
  by_cases c41 : c = 41
  · have hb41 : s.2.2 = 1 ∧ 0 < s.1 := by
      rw [c41, bad_41] at hbad
      by_cases u : s.2.2 = 1 ∧ 0 < s.1
      · exact u
      · rw [if_neg u] at hbad; omega
    obtain ⟨hst', hd1⟩ := hb41
    rw [if_pos c41] at hv0
    rw [if_neg (by omega), if_pos c41] at sy1
    rw [if_neg (by omega)] at sy3
    obtain ⟨N1, t0, t1, t2, t3, t4⟩ := k_clF (J := J) he hb hbe hd hI hV (hF hst') hz (by rw [h7, hst'])
    have hfl := fl_clF (d := s.1) (v := v)
    rw [ieq_t c41, c_chkO y1, t0, c_bnd, hv0]
    unfold f_X2_evaluate_B17_L118
    by_cases e1 : (clF s.1 v).1 = 0
    · obtain ⟨N2, u0, u1, u2, u3, u4⟩ := k_clP (J := J) he hb hbe hd (clF_I hI) (t4 e1) (clF_hP e1) t2
      have hfl2 := fl_clP (d := s.1) (v := clF s.1 v)
      have hc2 : cl2 s.1 v = clP s.1 (clF s.1 v) := if_pos e1
      rw [show 1 - (clF s.1 v).1 = 1 by omega, if_neg m1n0, c_chkO y1, u0, c_bnd, hc2]
      by_cases e2 : (clP s.1 (clF s.1 v)).1 = 0
      · rw [show 1 - (clP s.1 (clF s.1 v)).1 = 1 by omega, if_neg m1n0]
        have hC : vsC s.1 (clP s.1 (clF s.1 v)) = (0, (clP s.1 (clF s.1 v)).2.2.2.2.2 s.1, (clP s.1 (clF s.1 v)).2.2) := if_pos e2
        have hA := ((u4 e2) s.1 (Nat.le_refl _)).2.2.2 (clP_hS e2)
        have hA12 := ((clP_I (d := s.1) (clF_I (d := s.1) hI)).2 s.1).2.2
        obtain ⟨N3, w0, w1, w2, w3, w4, w5⟩ := k_L119 (J := J) (b := b) (i := i) (r := 1) he hd hd1 u2 hA hA12
        rw [w0, hC]
        refine ⟨N3, _, _, rfl, (t1.trans u1).trans w1, w2, Or.inl ⟨rfl, by rw [sy1], rfl, ?_, by rw [w3, sy3], fun _ => w5⟩⟩
        rw [sy1]
        have hV3 : cV N3 e s.1 (clP s.1 (clF s.1 v)) := (u4 e2).fr hd w4
        exact fun k hk => hV3 k (by omega)
      · rw [show 1 - (clP s.1 (clF s.1 v)).1 = 0 by omega, if_pos m0e]
        have hC : vsC s.1 (clP s.1 (clF s.1 v)) = clP s.1 (clF s.1 v) := if_neg e2
        obtain ⟨N3, w0, w1, w2, _⟩ := k_L119 (J := J) (b := b) (i := i) (r := 0) he hd hd1 u2 rdA_c (u2 s.1 (by omega))
        rw [w0, hC]
        exact ⟨N3, _, _, rfl, (t1.trans u1).trans w1, w2, Or.inr ⟨e2, rfl⟩⟩
    · have hc2 : cl2 s.1 v = clF s.1 v := if_neg e1
      have hC : vsC s.1 (clF s.1 v) = clF s.1 v := if_neg e1
      obtain ⟨N3, w0, w1, w2, _⟩ := k_L119 (J := J) (b := b) (i := i) (r := 0) he hd hd1 t2 rdA_c (t2 s.1 (by omega))
      rw [show 1 - (clF s.1 v).1 = 0 by omega, if_pos m0e, w0, hc2, hC]
      exact ⟨N3, _, _, rfl, t1.trans w1, w2, Or.inr ⟨e1, rfl⟩⟩
  rw [ieq_f c41 (by omega) (by omega), k_dig hc128, c_bnd]
  rw [if_neg c41] at hv0
  have h40 : c = 40 → s.1 < 8 := fun u => by
    rw [u, bad_40] at hbad
    by_cases w : s.1 < 8
    · exact w
    · rw [if_neg w] at hbad; omega
  by_cases e1 : isDg c ∧ 0 < s.2.1
  · obtain ⟨hi0, hdc'⟩ := hg.mp e1.2
    obtain ⟨w, w1, w2⟩ := hnum e1.2
    have hst' := hst e1.2
    have g3 : s.2.1 ≤ 3 := by
      rw [bad_dg e1.1] at hbad
      by_cases u : 4 ≤ s.2.1
      · rw [if_pos u] at hbad; omega
      · omega
    have w3 : 10 ^ s.2.1 ≤ 10 ^ 3 := Nat.pow_le_pow_right (by omega) g3
    rw [if_pos e1] at hv0
    have hFn := hF hst'
    rw [w1] at hFn hv0
    have hw9 : (numA w).2.2.1 0 = w := rfl
    rw [hw9] at hv0
    have hc48 := e1.1.1
    have hc57 := e1.1.2
    have n40 : ¬ c = 40 := by omega
    rw [if_neg n40, if_neg c41] at sy1
    rw [if_neg (by omega)] at sy3
    have last : N (e + 116) 0 = w := (hFn.2 0 (by show 0 < 1; omega)).2.1
    unfold f_X2_evaluate_B17_L248
    rw [b01_t e1.1, if_neg m1n0, L0, ile_f hi0 (by omega), c_gfR y1 z1 (by omega), L1, pk_sub (by omega), c_ldI g1 (by omega) (by omega), hc', k_dig (hc'128 hi0), c_bnd, b01_t hdc', ieq_f (by omega) (by omega) (by omega), c_gfR y1 z6 (by omega), c_gfR hfac.ob hfac.r2 (by omega), c_gfR y1 z6 (by omega), c_gfR hfac.ob hfac.r2 (by omega), c_ldI hfac.g2 (by omega) (by omega), show N (e + 114 + 2) 0 = w from last, L10, pk_mul, nI_add, L48, pk_sub (by omega), L10007, c_rmI (by omega) (by omega) (by omega), Nat.mod_eq_of_lt (show 10 * w + c - 48 < 10007 by omega), c_stI hfac.g2 (by omega) (by omega), nI_add, hv0]
    refine ⟨_, _, _, rfl, cEf.of (frA.set (a := e + 114 + 2) (lo := e + 116) (hi := e + 117) (by omega) (by omega)) (by omega) (by omega), hz.of (fun x a c => setF_ne (by omega)), Or.inl ⟨rfl, by rw [sy1], rfl, ?_, by rw [setF_ne (by omega), h7, hst', sy3], fun _ => ?_⟩⟩
    · rw [sy1]
      exact hV.fr hd (fun x a c => setF_ne (by omega))
    · refine ⟨by rw [setF_ne (by omega)]; exact hFn.1, fun k hk => ?_⟩
      have hk' : k < 1 := hk
      have hk0 : k = 0 := by omega
      subst hk0
      refine ⟨by rw [setF_ne (by omega)]; exact (hFn.2 0 hk).1, by rw [setF_at, up1_at]; rfl, fun j l hj hl => by rw [setF_ne (by omega)]; exact (hFn.2 0 hk).2.2 j l hj hl⟩
  · rw [if_neg e1] at hv0
    have fin := k_L211 (J := J) (i := i) he hb hbe hd hst1 hI hR h0 hz hc128 h40 c41 c43 hv0
    by_cases e2 : isDg c
    · rw [b01_t e2, if_neg m1n0]
      by_cases e3 : 0 < i
      · have e4 : ¬ isDg c' := fun u => e1 ⟨e2, hg.mpr ⟨e3, u⟩⟩
        rw [L0, ile_f e3 (by omega), c_gfR y1 z1 (by omega), L1, pk_sub (by omega), c_ldI g1 (by omega) (by omega), hc', k_dig (hc'128 e3), c_bnd, b01_f e4, ieq_t rfl]
        exact fin
      · rw [L0, ile_t (by omega) (by omega)]
        exact fin
    · rw [b01_f e2, if_pos m0e]
      exact fin
theorem k_eval (he : eS Γ R e) (hb : bS Γ R b) (hbe : b + 131 ≤ e) {n : Nat} {t : Nat → Nat} (hz : cSz N e) (h1 : N e 1 = n) (hn : n ≤ 60) (ht : ∀ i, i < n → N (e + 1) i = t i) (h128 : ∀ i, i < n → t i < 128) (hall : ∀ i, i < n → bdT t i = 0) (hst : (syT t n).2.2 = 1) (hd0 : (syT t n).1 = 0) : ∃ N' r, f_X2_evaluate Γ e b (cS N R J) = some (r, cS N' R J) ∧ cEf N N' e b ∧ cSz N' e ∧ (((fnV t n).1 = 0 ∧ r = nI 1 ∧ cAu N' (e + 3) ((fnV t n).2.2.2.2.2 0)) ∨ ((fnV t n).1 ≠ 0 ∧ r = nI 0)) := by
  have y1 := he.1.1
  unfold f_X2_evaluate
  rw [L0, c_pfZ y1 (by omega), c_chkO y1]
  obtain ⟨N0, o0, o1, o2, o3, o4, o5, o6⟩ := k_open (J := J) (R := R) (b := b) (N := setF N e (up1 (N e) 7 0)) he (d := 0) (by omega) (hz.of (fun x a c => setF_ne (by omega)))
  rw [o0, c_bnd, L1]
  have ef0 : cEf N N0 e b := cEf.h7.trans o1
  have hl : ∃ bb, loopM (fun q => f_X2_evaluate_B17 Γ e b q.1 q.2.1 q.2.2.1 q.2.2.2) FUEL (nI 0, nI 1, nI 0, cS N0 R J) = some bb ∧ ∃ N', cEf N N' e b ∧ cSz N' e ∧ (((vlT t n).1 = 0 ∧ bb = (nI (syT t n).1, nI 1, cS N' R J) ∧ eR N' e (syT t n) (vlT t n)) ∨ ((vlT t n).1 ≠ 0 ∧ ∃ dd, bb = (dd, nI 0, cS N' R J))) := by
    refine loopM_e (fun i s => ∃ N', cEf N N' e b ∧ cSz N' e ∧ (((vlT t i).1 = 0 ∧ s = (nI (syT t i).1, nI 1, nI i, cS N' R J) ∧ eR N' e (syT t i) (vlT t i)) ∨ ((vlT t i).1 ≠ 0 ∧ ∃ dd, s = (dd, nI 0, nI i, cS N' R J)))) (fun bb => ∃ N', cEf N N' e b ∧ cSz N' e ∧ (((vlT t n).1 = 0 ∧ bb = (nI (syT t n).1, nI 1, cS N' R J) ∧ eR N' e (syT t n) (vlT t n)) ∨ ((vlT t n).1 ≠ 0 ∧ ∃ dd, bb = (dd, nI 0, cS N' R J)))) n ?_ n 0 FUEL _ (by omega) ⟨N0, ef0, o2, Or.inl ⟨rfl, rfl, ?_, ?_, fun u => absurd u (by show (0 : Nat) ≠ 1; omega)⟩⟩ (by unfold FUEL; omega)
    · intro i s hi ⟨N1, r1, r2, r3⟩
      have hn1 : N1 e 1 = n := by rw [r1.2.1 1 (by omega)]; exact h1
      have ht1 : N1 (e + 1) = N (e + 1) := r1.2.2
      rcases r3 with ⟨v0, rfl, hR⟩ | ⟨v1, dd, rfl⟩
      · by_cases e1 : i = n
        · subst e1
          refine Or.inr ⟨(nI (syT t i).1, nI 1, cS N1 R J), ?_, N1, r1, r2, Or.inl ⟨v0, rfl, hR⟩⟩
          show f_X2_evaluate_B17 _ _ _ _ _ _ _ = _
          unfold f_X2_evaluate_B17
          rw [c_gfI y1, hn1, ile_t (by omega) (by omega)]
        · obtain ⟨s1, s2, s3, s4, s5⟩ := sInv_all i (fun j hj => hall j (by omega))
          obtain ⟨N2, dd, r, t0, t1, t2, t3⟩ := k_ev1 (J := J) (s := syT t i) (v := vlT t i) (c := t i) (c' := t (i - 1)) he hb hbe r2 hR v0 s4 s1 (hall i (by omega)) hn1 hn (show i < n by omega) (by rw [ht1]; exact ht i (by omega)) (h128 i (by omega)) (by rw [ht1]; exact ht (i - 1) (by omega)) (fun _ => h128 (i - 1) (by omega)) s2 s3 (fun u => s5 u v0)
          refine Or.inl ⟨Nat.lt_of_le_of_ne hi e1, (dd, r, nI (i + 1), cS N2 R J), t0, N2, r1.trans t1, t2, ?_⟩
          rcases t3 with ⟨w0, w1, w2, w3⟩ | ⟨w0, w1⟩
          · exact Or.inl ⟨w0, by rw [w1, w2]; rfl, w3⟩
          · exact Or.inr ⟨w0, dd, by rw [w1]⟩
      · have hm := vl_stop v1 (n - i)
        rw [show i + (n - i) = n by omega] at hm
        refine Or.inr ⟨(dd, nI 0, cS N1 R J), ?_, N1, r1, r2, Or.inr ⟨by rw [hm]; exact v1, dd, rfl⟩⟩
        show f_X2_evaluate_B17 _ _ _ _ _ _ _ = _
        unfold f_X2_evaluate_B17
        rw [c_gfI y1, hn1, if_pos m0e]
        by_cases e1 : i = n
        · rw [ile_t (by omega) (by omega)]
        · rw [ile_f (by omega) (by omega)]
    · intro k hk
      have hk0 : k = 0 := Nat.le_zero.mp hk
      subst hk0
      rw [o5, o6, up1_at, up1_at]
      exact ⟨⟨by omega, rfl, fun u => absurd rfl u⟩, by omega, rfl, fun u => absurd rfl u⟩
    · rw [o3, setF_at, up1_at]
      rfl
  obtain ⟨bb, e1, N1, r1, r2, r3⟩ := hl
  rw [e1]
  rcases r3 with ⟨v0, rfl, hV, h7, hF⟩ | ⟨v1, dd, rfl⟩
  · obtain ⟨_, _, _, hI, _⟩ := sInv_all n hall
    have hfn : fnV t n = cl2 0 (vlT t n) := if_pos v0
    rw [hd0] at hV ⊢
    rw [c_lb2, ieq_f (by omega) (by omega) (by omega), c_chkO y1, hfn]
    obtain ⟨N2, t0, t1, t2, t3, t4⟩ := k_clF (J := J) he hb hbe (show 0 ≤ 8 by omega) hI hV (hF hst) r2 (by rw [h7, hst])
    have hfl := fl_clF (d := 0) (v := vlT t n)
    rw [t0, c_bnd]
    unfold f_X2_evaluate_L280 f_X2_evaluate_L281
    by_cases e2 : (clF 0 (vlT t n)).1 = 0
    · obtain ⟨N3, u0, u1, u2, u3, u4⟩ := k_clP (J := J) he hb hbe (show 0 ≤ 8 by omega) (clF_I hI) (t4 e2) (clF_hP e2) t2
      have hfl2 := fl_clP (d := 0) (v := clF 0 (vlT t n))
      have hc2 : cl2 0 (vlT t n) = clP 0 (clF 0 (vlT t n)) := if_pos e2
      rw [show 1 - (clF 0 (vlT t n)).1 = 1 by omega, ieq_f (by omega) (by omega) (by omega), c_chkO y1, u0, c_bnd, hc2]
      by_cases e3 : (clP 0 (clF 0 (vlT t n))).1 = 0
      · rw [show 1 - (clP 0 (clF 0 (vlT t n))).1 = 1 by omega, ieq_f (by omega) (by omega) (by omega)]
        exact ⟨N3, _, rfl, (r1.trans t1).trans u1, u2, Or.inl ⟨e3, rfl, ((u4 e3) 0 (Nat.le_refl _)).2.2.2 (clP_hS e3)⟩⟩
      · rw [show 1 - (clP 0 (clF 0 (vlT t n))).1 = 0 by omega, ieq_t rfl]
        exact ⟨N3, _, rfl, (r1.trans t1).trans u1, u2, Or.inr ⟨e3, rfl⟩⟩
    · have hc2 : cl2 0 (vlT t n) = clF 0 (vlT t n) := if_neg e2
      rw [show 1 - (clF 0 (vlT t n)).1 = 0 by omega, ieq_t rfl, hc2]
      exact ⟨N2, _, rfl, r1.trans t1, t2, Or.inr ⟨e2, rfl⟩⟩
  · have hfn : fnV t n = vlT t n := if_neg v1
    rw [c_lb2, ieq_t rfl, hfn]
    exact ⟨N1, _, rfl, r1, r2, Or.inr ⟨v1, rfl⟩⟩
end EV
