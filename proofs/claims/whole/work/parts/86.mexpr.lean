/-! ===== the model's expression: its steps, the rest ===== -/
noncomputable def vsF' (v : vs) : vs := if v.1 = 0 then vsF v else v
noncomputable def vsE' (s : syS) (v : vs) : vs := if s.2.2 = 1 then clF' s.1 v else v
theorem cl2'_eq {d : Nat} {v : vs} : cl2' d v = if (clF' d v).1 = 0 then clP d (clF' d v) else clF' d v := by
  unfold cl2' clF' cl2
  by_cases e : v.1 = 0
  · rw [if_pos e, if_pos e]
  · rw [if_neg e, if_neg e, if_neg e]
theorem clF'_I {d : Nat} {v : vs} (h : vI v) : vI (clF' d v) := by
  unfold clF'
  by_cases e : v.1 = 0
  · rw [if_pos e]; exact clF_I h
  · rw [if_neg e]; exact h
theorem clF'_fl {d : Nat} {v : vs} (h : v.1 ≤ 1) : (clF' d v).1 ≤ 1 := by
  unfold clF'
  by_cases e : v.1 = 0
  · rw [if_pos e]; exact fl_clF
  · rw [if_neg e]; exact h
theorem up1_up1 {f : Nat → Nat} {k a b : Nat} : up1 (up1 f k a) k b = up1 f k b := by
  funext j
  unfold up1
  by_cases e : j = k
  · rw [if_pos e, if_pos e]
  · rw [if_neg e, if_neg e, if_neg e]
/-- what some figures come to -/
def dec (t : Nat → Nat) (i : Nat) : Nat → Nat
  | 0 => 0
  | k + 1 => 10 * dec t i k + t (i + k) - 48
theorem dec_lt {t : Nat → Nat} {i : Nat} : ∀ m, (∀ k, k < m → isDg (t (i + k))) → dec t i m < 10 ^ m := by
  intro m
  induction m with
  | zero => intro _; exact Nat.one_pos
  | succ m ih =>
    intro h
    have h1 := ih (fun k hk => h k (by omega))
    have h2 := (h m (by omega)).2
    rw [Nat.pow_succ]
    show 10 * dec t i m + t (i + m) - 48 < _
    omega
section MF
variable {Γ : zSh} {N N' N1 R : Mem} {J : Nat → Nat → Int64} {p q x y d c lo hi w f n i : Nat} {v : vs} {X Y A : Au} {t : Nat → Nat}
theorem m_cl2 (h : mS Γ R p) (hd : d ≤ 8) (h20 : N p 20 = d) (h22 : N p 22 = v.1) (hfl : v.1 ≤ 1) (hI : vI v) (hV : v.1 = 0 → mV N p d v ∧ mAu N p 4 v.2.1) : Mx (f_X7_endsProduct Γ p (cS N R J)) (fun σ => ((), σ)) R J (fun N' => mEf N N' p ∧ N' p 19 = N p 19 ∧ N' p 20 = d ∧ N' p 21 = 0 ∧ N' p 22 = (cl2' d v).1 ∧ ((cl2' d v).1 = 0 → mV N' p d (cl2' d v))) := by
  unfold f_X7_endsProduct f_X7_endsProduct_L68
  have hrh : R p 24 = p + 16 := h.rhprod
  have hgh : Γ (p + 16) = some (1, 9) := h.ghprod
  have hrs : R p 23 = p + 15 := h.rhsum
  have hgs : Γ (p + 15) = some (1, 9) := h.ghsum
  rw [c_chkO h.ob]
  refine mx_bnd (m_clF h hd h20 h22 hfl hI hV) ?_
  intro N1 ⟨r1, r2, r3, r4, r5, r6⟩
  have hw := clF'_I (d := d) hI
  have hwf := clF'_fl (d := d) hfl
  have hP : (clF' d v).1 = 0 → (clF' d v).2.2.1 d ≠ 0 := by
    unfold clF'
    by_cases e : v.1 = 0
    · rw [if_pos e]; exact clF_hP
    · rw [if_neg e]; exact fun u => absurd u e
  rw [cl2'_eq]
  generalize clF' d v = w at *
  rw [c_gfI h.ob, r3, c_gfR h.ob hrs (by omega), c_gfI h.ob, r3, c_ldZ hgs (by omega) (by omega), L2, pk_mul, L8, nI_add, L9, L0]
  have fin : ∀ (N2 : Mem) (w2 : vs), mEf N1 N2 p → N2 p 19 = N1 p 19 → N2 p 20 = d → N2 p 21 = 0 → N2 p 22 = w2.1 → (w2.1 = 0 → mV (setF N2 (p + 16) (up1 (N2 (p + 16)) d 0)) p d w2) → Mx (gfR Γ (cS N2 R J) p 7 24 fun v11 => gfI Γ (cS N2 R J) p 7 20 fun v12 => stZ Γ (cS N2 R J) v11 v12 (nI 0) fun σ13 => some ((), σ13)) (fun σ => ((), σ)) R J (fun N' => mEf N N' p ∧ N' p 19 = N p 19 ∧ N' p 20 = d ∧ N' p 21 = 0 ∧ N' p 22 = w2.1 ∧ (w2.1 = 0 → mV N' p d w2)) := by
    intro N2 w2 t1 t2 t3 t4 t5 t6
    rw [c_gfR h.ob hrh (by omega), c_gfI h.ob, t3, c_stZ hgh (by omega) (by omega) (by omega)]
    exact mx_eq rfl ⟨(r1.trans t1).trans (mEf.arr _ (by omega) (by omega)), by rw [setF_ne (by omega), t2, r2], by rw [setF_ne (by omega)]; exact t3, by rw [setF_ne (by omega)]; exact t4, by rw [setF_ne (by omega)]; exact t5, t6⟩
  by_cases e0 : w.1 = 0
  · have hV := r6 e0
    have hP := hP e0
    obtain ⟨⟨b1, b2, b3⟩, b4, b5, b6⟩ := hV d (Nat.le_refl d)
    have hIP := (hw.2 d).1
    have hIS := (hw.2 d).2
    rw [if_pos e0]
    have hcl : clP d w = if w.2.2.2.2.1 d = 0 then (0, w.2.1, up1 w.2.2.1 d 0, w.2.2.2.1, up1 w.2.2.2.2.1 d 1, up w.2.2.2.2.2 d (w.2.2.2.1 d)) else if (w.2.2.2.2.2 d).1 + (w.2.2.2.1 d).1 ≤ 12 then (0, w.2.1, up1 w.2.2.1 d 0, w.2.2.2.1, w.2.2.2.2.1, up w.2.2.2.2.2 d (minA (sumA (w.2.2.2.2.2 d) (w.2.2.2.1 d)))) else (1, w.2) := rfl
    -- the products' marks
    have pr : ∀ k, k ≤ d → ∀ N9 : Mem, N9 (p + 16) k = up1 (N1 (p + 16)) d 0 k → (∀ k, k ≤ d → w.2.2.1 k ≠ 0 → mAu N9 p (9 + 2 * k) (w.2.2.2.1 k)) → N9 (p + 16) k < 2 ∧ N9 (p + 16) k = up1 w.2.2.1 d 0 k ∧ (up1 w.2.2.1 d 0 k ≠ 0 → mAu N9 p (9 + 2 * k) (w.2.2.2.1 k)) := by
      intro k hk N9 h9 f9
      obtain ⟨⟨c1, c2, c3⟩, _⟩ := hV k hk
      rw [h9]
      by_cases e2 : k = d
      · subst e2
        rw [up1_at, up1_at]
        exact ⟨by omega, rfl, fun u => absurd rfl u⟩
      · rw [up1_ne e2, up1_ne e2]
        exact ⟨c1, c2, fun u => f9 k hk u⟩
    by_cases e1 : w.2.2.2.2.1 d = 0
    · rw [if_pos e1] at hcl
      rw [b5, e1, ieq_t rfl, hcl, c_gfI h.ob, r3, pk_mul, nI_add, c_chkO h.ob]
      refine mx_bnd (m_copies h (x := 9 + 2 * d) (q := 8 + 2 * d) (by omega) (by omega) (by omega) (b3 hP) hIP.2) ?_
      intro N2 ⟨t1, t2⟩
      have o1 := mOf.of t1
      rw [c_gfR h.ob hrs (by omega), c_gfI h.ob, t1.1 p (by omega), r3, L1, c_stZ hgs (by omega) (by omega) (by omega)]
      have ep : setF (setF N2 (p + 15) (up1 (N2 (p + 15)) d 1)) (p + 16) (up1 (setF N2 (p + 15) (up1 (N2 (p + 15)) d 1) (p + 16)) d 0) (p + 1) = N2 (p + 1) := by rw [setF_ne (by omega), setF_ne (by omega)]
      refine fin _ (0, w.2.1, up1 w.2.2.1 d 0, w.2.2.2.1, up1 w.2.2.2.2.1 d 1, up w.2.2.2.2.2 d (w.2.2.2.1 d)) ((mEf.pool t1 (by omega)).trans (mEf.arr _ (by omega) (by omega))) (by rw [setF_ne (by omega), t1.1 p (by omega)]) (by rw [setF_ne (by omega), t1.1 p (by omega)]; exact r3) (by rw [setF_ne (by omega), t1.1 p (by omega)]; exact r4) (by rw [setF_ne (by omega), t1.1 p (by omega), r5]; exact e0) (fun _ k hk => ⟨pr k hk _ (by rw [setF_at, setF_ne (by omega), t1.1 (p + 16) (by omega)]) (fun k hk u => (o1.au ((hV k hk).1.2.2 u) (hw.2 k).1.2 (by omega) (by omega)).eq ep), ?_⟩)
      obtain ⟨_, c4, c5, c6⟩ := hV k hk
      rw [setF_ne (show p + 15 ≠ p + 16 by omega), setF_at, t1.1 (p + 15) (by omega)]
      by_cases e2 : k = d
      · subst e2
        refine ⟨by rw [up1_at]; omega, ?_, fun _ => ?_⟩
        · show _ = up1 _ k 1 k
          rw [up1_at, up1_at]
        · show mAu _ p _ (up w.2.2.2.2.2 k _ k)
          rw [up_at]
          exact t2.eq (by rw [setF_ne (by omega), setF_ne (by omega)])
      · refine ⟨by rw [up1_ne e2]; exact c4, ?_, fun u => ?_⟩
        · show _ = up1 _ d 1 k
          rw [up1_ne e2, up1_ne e2]
          exact c5
        · show mAu _ p _ (up w.2.2.2.2.2 d _ k)
          have u' : up1 w.2.2.2.2.1 d 1 k ≠ 0 := u
          rw [up1_ne e2] at u'
          rw [up_ne e2]
          exact (o1.au (c6 u') (hw.2 k).2.2 (by omega) (by omega)).eq (by rw [setF_ne (by omega), setF_ne (by omega)])
    · rw [if_neg e1] at hcl
      rw [show (if nI (N1 (p + 15) d) = nI 0 then _ else _) = _ from ieq_f (show N1 (p + 15) d ≠ 0 by omega) (by omega) (by omega), c_gfI h.ob, r3, pk_mul, nI_add, c_chkO h.ob]
      have hcc : comA (w.2.2.2.2.2 d) (w.2.2.2.1 d) 0 = sumA (w.2.2.2.2.2 d) (w.2.2.2.1 d) := rfl
      refine mx_bnd (m_opr (X := w.2.2.2.2.2 d) (Y := w.2.2.2.1 d) h (x := 8 + 2 * d) (y := 9 + 2 * d) (by omega) (by omega) r5 (by omega) (kind := 0) (by omega) (fun _ => ⟨⟨b6 e1, hIS.2, hIS.1⟩, b3 hP, hIP.2, hIP.1⟩)) ?_
      intro N2 ⟨t1, t2, t3⟩
      rw [hcc] at t2 t3
      have ep : setF N2 (p + 16) (up1 (N2 (p + 16)) d 0) (p + 1) = N2 (p + 1) := setF_ne (by omega)
      have hcl1 : (clP d w).1 = if (w.2.2.2.2.2 d).1 + (w.2.2.2.1 d).1 ≤ 12 then 0 else 1 := by
        rw [hcl]
        by_cases e2 : (w.2.2.2.2.2 d).1 + (w.2.2.2.1 d).1 ≤ 12
        · rw [if_pos e2, if_pos e2]
        · rw [if_neg e2, if_neg e2]
      refine fin N2 (clP d w) (t1.toE (by omega)) (t1.2.2 19 (by omega) (by omega)) (by rw [t1.2.2 20 (by omega) (by omega)]; exact r3) (by rw [t1.2.2 21 (by omega) (by omega)]; exact r4) ?_ (fun hz k hk => ?_)
      · rw [t2, hcl1]
        show (if w.1 = 0 ∧ (w.2.2.2.2.2 d).1 + (w.2.2.2.1 d).1 ≤ 12 then 0 else 1) = _
        by_cases e2 : (w.2.2.2.2.2 d).1 + (w.2.2.2.1 d).1 ≤ 12
        · rw [if_pos ⟨e0, e2⟩, if_pos e2]
        · rw [if_neg (fun u => e2 u.2), if_neg e2]
      · by_cases e2 : (w.2.2.2.2.2 d).1 + (w.2.2.2.1 d).1 ≤ 12
        · rw [if_pos e2] at hcl
          rw [hcl]
          refine ⟨pr k hk _ (by rw [setF_at, t1.2.1 (p + 16) (by omega) (by omega) (by omega)]) (fun k hk u => (t1.au ((hV k hk).1.2.2 u) (hw.2 k).1.2 (by omega) (by omega)).eq ep), ?_⟩
          obtain ⟨_, c4, c5, c6⟩ := hV k hk
          rw [setF_ne (show p + 15 ≠ p + 16 by omega), t1.2.1 (p + 15) (by omega) (by omega) (by omega)]
          refine ⟨c4, c5, fun u => ?_⟩
          show mAu _ p _ (up w.2.2.2.2.2 d _ k)
          by_cases e3 : k = d
          · subst e3
            rw [up_at]
            exact (t3 e0 e2).eq ep
          · rw [up_ne e3]
            exact (t1.au (c6 u) (hw.2 k).2.2 (by omega) (by omega)).eq ep
        · rw [hcl1, if_neg e2] at hz
          exact absurd hz (by omega)
  · rw [if_neg e0]
    by_cases e1 : nI (N1 (p + 15) d) = nI 0
    · rw [if_pos e1, c_gfI h.ob, r3, pk_mul, nI_add, c_chkO h.ob]
      refine mx_bnd (m_copyA h (x := 9 + 2 * d) (q := 8 + 2 * d) (by omega) (by omega) (by omega)) ?_
      intro N2 t1
      rw [c_gfR h.ob hrs (by omega), c_gfI h.ob, t1.1 p (by omega), r3, L1, c_stZ hgs (by omega) (by omega) (by omega)]
      exact fin _ w ((mEf.pool t1 (by omega)).trans (mEf.arr _ (by omega) (by omega))) (by rw [setF_ne (by omega), t1.1 p (by omega)]) (by rw [setF_ne (by omega), t1.1 p (by omega)]; exact r3) (by rw [setF_ne (by omega), t1.1 p (by omega)]; exact r4) (by rw [setF_ne (by omega), t1.1 p (by omega)]; exact r5) (fun u => absurd u e0)
    · rw [if_neg e1, c_gfI h.ob, r3, pk_mul, nI_add, c_chkO h.ob]
      refine mx_bnd (m_opr (X := w.2.1) (Y := w.2.1) h (x := 8 + 2 * d) (y := 9 + 2 * d) (by omega) (by omega) r5 (by omega) (kind := 0) (by omega) (fun u => absurd u e0)) ?_
      intro N2 ⟨t1, t2, t3⟩
      exact fin N2 w (t1.toE (by omega)) (t1.2.2 19 (by omega) (by omega)) (by rw [t1.2.2 20 (by omega) (by omega)]; exact r3) (by rw [t1.2.2 21 (by omega) (by omega)]; exact r4) (by rw [t2, if_neg (fun u => e0 u.1)]; omega) (fun u => absurd u e0)
theorem m_begins (h : mS Γ R p) (hd : d ≤ 8) (h20 : N p 20 = d) : Mx (f_X7_begins Γ p (cS N R J)) (fun σ => ((), σ)) R J (fun N' => mEf N N' p ∧ (∀ i, i ≠ 21 → N' p i = N p i) ∧ N' p 21 = 0 ∧ N' (p + 1) = N (p + 1) ∧ N' (p + 15) = up1 (N (p + 15)) d 0 ∧ N' (p + 16) = up1 (N (p + 16)) d 0) := by
  have hrh : R p 24 = p + 16 := h.rhprod
  have hgh : Γ (p + 16) = some (1, 9) := h.ghprod
  have hrs : R p 23 = p + 15 := h.rhsum
  have hgs : Γ (p + 15) = some (1, 9) := h.ghsum
  unfold f_X7_begins
  rw [c_gfR h.ob hrs (by omega), c_gfI h.ob, h20, L0, c_stZ hgs (by omega) (by omega) (by omega), c_gfR h.ob hrh (by omega), c_gfI h.ob, setF_ne (by omega), h20, c_stZ hgh (by omega) (by omega) (by omega), c_pfZ h.ob (by omega)]
  refine mx_eq rfl ⟨((mEf.arr _ (by omega) (by omega)).trans (mEf.arr _ (by omega) (by omega))).trans (mEf.fld (by omega) (by omega)), fun i hi => by rw [setF_at, up1_ne hi, setF_ne (by omega), setF_ne (by omega)], by rw [setF_at, up1_at], by rw [setF_ne (by omega), setF_ne (by omega), setF_ne (by omega)], by rw [setF_ne (by omega), setF_ne (by omega), setF_at], by rw [setF_ne (by omega), setF_at, setF_ne (by omega)]⟩
theorem m_rep (h : mS Γ R p) (hd : d ≤ 8) (h22 : N p 22 = v.1) (hfl : v.1 ≤ 1) (hI : vI v) (hV : v.1 = 0 → mV N p d v ∧ mAu N p 4 v.2.1) : Mx (f_X7_starsFactor Γ p (cS N R J)) (fun σ => ((), σ)) R J (fun N' => mEf N N' p ∧ N' p 19 = N p 19 ∧ N' p 20 = N p 20 ∧ N' p 21 = N p 21 ∧ N' p 22 = (vsF' v).1 ∧ ((vsF' v).1 = 0 → mV N' p d (vsF' v) ∧ mAu N' p 4 (vsF' v).2.1)) := by
  unfold f_X7_starsFactor f_X7_starsFactor_L16
  have bad : (vsF' v).1 = 1 → Mx (f_X7_starsFactor_L21 Γ p 1 p (cS N R J)) (fun σ => ((), σ)) R J (fun N' => mEf N N' p ∧ N' p 19 = N p 19 ∧ N' p 20 = N p 20 ∧ N' p 21 = N p 21 ∧ N' p 22 = (vsF' v).1 ∧ ((vsF' v).1 = 0 → mV N' p d (vsF' v) ∧ mAu N' p 4 (vsF' v).2.1)) := by
    intro hb
    unfold f_X7_starsFactor_L21 f_X7_starsFactor_L43
    rw [L1, c_pfZ h.ob (by omega), c_gfI h.ob, setF_at, up1_at, if_neg m1n0, hb]
    exact mx_eq rfl ⟨mEf.fld (by omega) (by omega), by rw [setF_at, up1_ne (by omega)], by rw [setF_at, up1_ne (by omega)], by rw [setF_at, up1_ne (by omega)], by rw [setF_at, up1_at], fun u => absurd u (by omega)⟩
  rw [c_gfI h.ob, h22]
  by_cases e0 : v.1 = 0
  · obtain ⟨hV, hF⟩ := hV e0
    have hc : vsF' v = vsF v := if_pos e0
    have hcl : vsF v = if v.2.1.1 < 12 ∧ wtA v.2.1 v.2.1.2.1 = 0 then (0, minA (staA v.2.1), v.2.2) else (1, v.2) := rfl
    rw [e0, if_pos m0e, c_chkO h.ob, L4, m_canStar h (by omega) hF hI.1.2 hI.1.1, c_bnd]
    by_cases e1 : v.2.1.1 < 12 ∧ wtA v.2.1 v.2.1.2.1 = 0
    · rw [if_pos e1] at hcl
      rw [if_pos e1, if_neg m1n0, hc, hcl]
      unfold f_X7_starsFactor_L21 f_X7_starsFactor_L43
      have h12 : (staA v.2.1).1 ≤ 12 := by show v.2.1.1 + 1 ≤ 12; omega
      have hF' : mAu (setF N p (up1 (N p) 22 0)) p 4 v.2.1 := hF.eq (setF_ne (by omega))
      rw [L0, c_pfZ h.ob (by omega), c_gfI h.ob, setF_at, up1_at, ieq_t rfl, c_chkO h.ob, L4, L5]
      refine mx_bnd (m_stars h (x := 4) (q := 5) (by omega) (by omega) (by omega) hF' hI.1.1 h12) ?_
      intro N2 ⟨t1, t2⟩
      rw [c_chkO h.ob]
      refine mx_bnd (m_minimizes h (x := 5) (q := 4) (by omega) (by omega) (by omega) (by omega) t2 h12 (staA_ok hI.1.1)) ?_
      intro N3 ⟨t3, t4, t5⟩
      have o1 : mOf N N3 p 4 := by
        refine ⟨fun z a b => ?_, fun y a b c => ?_, fun i a b => ?_⟩
        · rw [t4 z (by omega) (by omega), t1.2 z (by omega), setF_ne (by omega)]
        · rw [t3.1 y a b c, t1.1 y (by omega), setF_ne a]
        · rw [t3.2 i a, t1.1 p (by omega), setF_at, up1_ne b]
      refine mx_eq rfl ⟨o1.toE (by omega), o1.2.2 19 (by omega) (by omega), o1.2.2 20 (by omega) (by omega), o1.2.2 21 (by omega) (by omega), ?_, fun _ => ⟨fun k hk => ?_, t5⟩⟩
      · rw [t3.2 22 (by omega), t1.1 p (by omega), setF_at, up1_at]
      · obtain ⟨⟨c1, c2, c3⟩, c4, c5, c6⟩ := hV k hk
        rw [o1.2.1 (p + 16) (by omega) (by omega) (by omega), o1.2.1 (p + 15) (by omega) (by omega) (by omega)]
        exact ⟨⟨c1, c2, fun u => o1.au (c3 u) (hI.2 k).1.2 (by omega) (by omega)⟩, c4, c5, fun u => o1.au (c6 u) (hI.2 k).2.2 (by omega) (by omega)⟩
    · rw [if_neg e1] at hcl
      rw [if_neg e1, if_pos m0e]
      exact bad (by rw [hc, hcl])
  · rw [ieq_f' e0 (by omega)]
    exact bad (by rw [show vsF' v = v from if_neg e0]; omega)
theorem m_letter (h : mS Γ R p) (hc : c < 2) (h19 : N p 19 = i) (hi : i < 1000) : Mx (f_X7_readsLetter Γ p (nI c) (cS N R J)) (fun σ => ((), σ)) R J (fun N' => mEf N N' p ∧ (∀ z, z < 313 * 4 ∨ 313 * 4 + 313 ≤ z → N' (p + 1) z = N (p + 1) z) ∧ (∀ y, y ≠ p → y ≠ p + 1 → N' y = N y) ∧ (∀ k, k ≠ 19 → N' p k = N p k) ∧ N' p 19 = i + 1 ∧ mAu N' p 4 (letA c)) := by
  unfold f_X7_readsLetter
  rw [c_chkO h.ob, L4, L2]
  refine mx_bnd (m_clears h (q := 4) (n := 2) (by omega)) ?_
  intro N1 ⟨t1, t2, t3⟩
  simp (disch := omega) only [c_bnd, c_chk, c_lb0, c_lb1, c_lb2, c_lb3, L0, L1, L2, L10007, nI_add, pk_mul, ile_t, ile_f, ilt_t, ilt_f, ieq_t, ieq_f, c_rmI, setF_at, setF_ne, setF_setF, true_and, up1_at, up1_ne, pk_sub, pk_cpy_in, pk_cpy_out, Nat.zero_add, Nat.add_zero, Nat.zero_mul, Nat.sub_zero, Nat.add_sub_cancel_left, c_gfI h.ob, c_pfI h.ob, c_chkO h.ob, c_gfR h.ob h.rpool, c_ldI h.gpool, c_stI h.gpool, m_iAt, m_fAt, m_at, m_many h, L12, L13, L25, L144, L313, L4]
  have e19 : N1 p 19 = i := by rw [t1.1 p (by omega)]; exact h19
  rw [e19]
  have ep : ∀ g G : Nat → Nat, setF (setF N1 (p + 1) g) p G (p + 1) = g := fun g G => by rw [setF_ne (by omega), setF_at]
  have hz : ∀ z, 0 < z → z < 313 → N1 (p + 1) (1252 + z) = 0 := fun z a b => t3 z a b
  have hout : ∀ z, z < 313 * 4 ∨ 313 * 4 + 313 ≤ z → up1 (up1 (up1 (N1 (p + 1)) (313 * 4 + 1) 1) (313 * 4 + 13 + 1) 1) (313 * 4 + 25 + 144 * c + 12 * 0 + 1) 1 z = N (p + 1) z := fun z a => by
    rw [up1_ne (by omega), up1_ne (by omega), up1_ne (by omega)]
    exact t1.2 z a
  refine mx_eq rfl ⟨?_, fun z a => ?_, fun y a b => ?_, fun k hk => ?_, ?_, ?_⟩
  · refine ⟨fun z a => ?_, ?_, ?_, fun k a b => ?_, fun y a => ?_⟩
    · rw [ep]; exact hout z (by omega)
    · rw [setF_ne (by omega), setF_ne (by omega), t1.1 _ (by omega)]
    · rw [setF_ne (by omega), setF_ne (by omega), t1.1 _ (by omega)]
    · rw [setF_at, up1_ne (by omega), t1.1 p (by omega)]
    · rw [setF_ne (by omega), setF_ne (by omega), t1.1 _ (by omega)]
  · rw [ep]; exact hout z a
  · rw [setF_ne a, setF_ne b, t1.1 y (by omega)]
  · rw [setF_at, up1_ne hk, t1.1 p (by omega)]
  · rw [setF_at, up1_at]
  · refine ⟨by rw [ep, up1_ne (by omega), up1_ne (by omega), up1_ne (by omega)]; exact t2, fun k hk => ?_⟩
    have hk' : k < 2 := hk
    rw [ep]
    refine ⟨?_, ?_, fun j l hj hl => ?_⟩
    · show _ = if k = 0 then 1 else 0
      rw [up1_ne (by omega), up1_ne (by omega)]
      by_cases e : k = 0
      · subst e; rw [if_pos rfl, up1_at]
      · rw [if_neg e, up1_ne (by omega), show 313 * 4 + 1 + k = 1252 + (1 + k) by omega]; exact hz _ (by omega) (by omega)
    · show _ = if k = 1 then 1 else 0
      rw [up1_ne (by omega)]
      by_cases e : k = 1
      · subst e; rw [if_pos rfl, up1_at]
      · rw [if_neg e, up1_ne (by omega), up1_ne (by omega), show 313 * 4 + 13 + k = 1252 + (13 + k) by omega]; exact hz _ (by omega) (by omega)
    · have hj' : j < 2 := hj
      show _ = if l = c ∧ k = 0 ∧ j = 1 then 1 else 0
      by_cases e : l = c ∧ k = 0 ∧ j = 1
      · obtain ⟨rfl, rfl, rfl⟩ := e
        rw [if_pos ⟨rfl, rfl, rfl⟩, up1_at]
      · rw [if_neg e, up1_ne (by omega), up1_ne (by omega), up1_ne (by omega), show 313 * 4 + 25 + 144 * l + 12 * k + j = 1252 + (25 + 144 * l + 12 * k + j) by omega]; exact hz _ (by omega) (by omega)
theorem m_fig (h : mS Γ R p) (h18 : N p 18 = n) (hn : n ≤ 60) (h19 : N p 19 = i) (hi : i ≤ 60) (ht : ∀ k, k < n → N (p + 14) k = t k) (h128 : ∀ k, k < n → t k < 128) : f_X7_isFigure Γ p (cS N R J) = some (nI (b01 (i < n ∧ isDg (t i))), cS N R J) := by
  unfold f_X7_isFigure f_X7_isFigure_L37 f_X7_isFigure_L38
  rw [c_gfI h.ob, h19, c_gfI h.ob, h18]
  by_cases e : i < n
  · have hc := h128 i e
    rw [ile_f e (by omega), c_gfR h.ob h.rtext (by omega), c_gfI h.ob, h19, c_ldI h.gtext (by omega) (by omega), ht i e, m_in (l := 48) (h := 57) (by decide) (by decide), c_bnd, nI_toInt (by omega)]
    by_cases e2 : isDg (t i)
    · rw [b01_t (show (48 : Int) ≤ (t i : Int) ∧ (t i : Int) ≤ 57 from ⟨by have := e2.1; omega, by have := e2.2; omega⟩), if_neg m1n0, b01_t (And.intro e e2)]
      rfl
    · rw [b01_f (show ¬ ((48 : Int) ≤ (t i : Int) ∧ (t i : Int) ≤ 57) from fun u => e2 ⟨by omega, by omega⟩), if_pos m0e, b01_f (fun u : i < n ∧ isDg (t i) => e2 u.2)]
      rfl
  · rw [ile_t (by omega) (by omega), b01_f (fun u : i < n ∧ isDg (t i) => e u.1)]
    rfl
theorem m_number (h : mS Γ R p) (h18 : N p 18 = n) (hn : n ≤ 60) (h19 : N p 19 = i) (hi : i < n) (ht : ∀ k, k < n → N (p + 14) k = t k) (h128 : ∀ k, k < n → t k < 128) : ∃ m r, m ≤ 4 ∧ (∀ k, k < m → i + k < n ∧ isDg (t (i + k))) ∧ (m = 4 ∨ ¬ (i + m < n ∧ isDg (t (i + m)))) ∧ r = nI (1 - b01 (i + m < n ∧ isDg (t (i + m)))) ∧ Mx (f_X7_readsNumber Γ p (cS N R J)) (fun σ => (r, σ)) R J (fun N' => mEf N N' p ∧ (∀ z, z < 313 * 4 ∨ 313 * 4 + 313 ≤ z → N' (p + 1) z = N (p + 1) z) ∧ (∀ y, y ≠ p → y ≠ p + 1 → N' y = N y) ∧ (∀ k, k ≠ 19 → N' p k = N p k) ∧ N' p 19 = i + m ∧ mAu N' p 4 (numA (dec t i m))) := by
  have hl : ∃ b, loopM (fun q => f_X7_readsNumber_B7 Γ p (nI i) q.1 q.2) FUEL (nI 0, cS N R J) = some b ∧ ∃ m, b = (nI (dec t i m), cS (setF N p (up1 (N p) 19 (i + m))) R J) ∧ m ≤ 4 ∧ i + m ≤ n ∧ (∀ k, k < m → i + k < n ∧ isDg (t (i + k))) ∧ (m = 4 ∨ ¬ (i + m < n ∧ isDg (t (i + m)))) := by
    refine loopM_e (fun k s => s = (nI (dec t i k), cS (setF N p (up1 (N p) 19 (i + k))) R J) ∧ i + k ≤ n ∧ ∀ k', k' < k → i + k' < n ∧ isDg (t (i + k'))) (fun b => ∃ m, b = (nI (dec t i m), cS (setF N p (up1 (N p) 19 (i + m))) R J) ∧ m ≤ 4 ∧ i + m ≤ n ∧ (∀ k, k < m → i + k < n ∧ isDg (t (i + k))) ∧ (m = 4 ∨ ¬ (i + m < n ∧ isDg (t (i + m))))) 4 ?_ 4 0 FUEL _ (by omega) ⟨?_, by omega, fun k' u => absurd u (Nat.not_lt_zero _)⟩ (by unfold FUEL; omega)
    · intro k s hk ⟨e0, hin, hg⟩
      subst e0
      have g18 : setF N p (up1 (N p) 19 (i + k)) p 18 = n := by rw [setF_at, up1_ne (by omega)]; exact h18
      have g19 : setF N p (up1 (N p) 19 (i + k)) p 19 = i + k := by rw [setF_at, up1_at]
      have gt : ∀ k', k' < n → setF N p (up1 (N p) 19 (i + k)) (p + 14) k' = t k' := fun k' hk' => by rw [setF_ne (by omega)]; exact ht k' hk'
      have hdl := dec_lt (t := t) (i := i) k (fun k' hk' => (hg k' hk').2)
      have h10 : 10 ^ k ≤ 10 ^ 4 := Nat.pow_le_pow_right (by omega) hk
      show (k < 4 ∧ ∃ s', f_X7_readsNumber_B7 _ _ _ _ _ = some (.inl s') ∧ _) ∨ ∃ b, f_X7_readsNumber_B7 _ _ _ _ _ = some (.inr b) ∧ _
      unfold f_X7_readsNumber_B7
      rw [c_chkO h.ob, m_fig h g18 hn g19 (by omega) gt h128, c_bnd]
      by_cases e1 : i + k < n ∧ isDg (t (i + k))
      · rw [b01_t e1, if_neg m1n0, c_gfI h.ob, g19, L4, nI_add]
        by_cases e2 : k = 4
        · rw [ile_t (by omega) (by omega)]
          exact Or.inr ⟨_, rfl, k, rfl, hk, hin, hg, Or.inl e2⟩
        · have hc := h128 _ e1.1
          have hc1 := e1.2.1
          refine Or.inl ⟨by omega, ?_⟩
          rw [ile_f (by omega) (by omega), c_gfR h.ob h.rtext (by omega), c_gfI h.ob, g19, c_ldI h.gtext (by omega) (by omega), gt _ e1.1, c_gfI h.ob, g19, L1, nI_add, c_pfI h.ob, setF_at, setF_setF, up1_up1, L10, pk_mul, nI_add, L48, pk_sub (by omega)]
          refine ⟨_, rfl, rfl, by omega, fun k' hk' => ?_⟩
          by_cases e3 : k' = k
          · rw [e3]; exact e1
          · exact hg k' (by omega)
      · rw [b01_f e1, if_pos m0e]
        exact Or.inr ⟨_, rfl, k, rfl, hk, hin, hg, Or.inr e1⟩
    · have : setF N p (up1 (N p) 19 (i + 0)) = N := by
        have : up1 (N p) 19 (i + 0) = N p := by
          funext j
          unfold up1
          by_cases e : j = 19
          · rw [if_pos e, e, h19]; rfl
          · rw [if_neg e]
        rw [this, setF_self]
      rw [this]
      rfl
  obtain ⟨b, l1, m, rfl, m1, m2, m3, m4⟩ := hl
  refine ⟨m, _, m1, m3, m4, rfl, ?_⟩
  have hdl := dec_lt (t := t) (i := i) m (fun k' hk' => (m3 k' hk').2)
  have h10 : 10 ^ m ≤ 10 ^ 4 := Nat.pow_le_pow_right (by omega) m1
  unfold f_X7_readsNumber f_X7_readsNumber_L95
  rw [c_gfI h.ob, h19, L0, l1, c_lb1, c_chkO h.ob, L4, L1]
  refine mx_bnd (m_clears h (q := 4) (n := 1) (by omega)) ?_
  intro N1 ⟨t1, t2, t3⟩
  simp (disch := omega) only [c_bnd, c_chk, c_lb0, c_lb1, c_lb2, c_lb3, L0, L1, L2, L10007, nI_add, pk_mul, ile_t, ile_f, ilt_t, ilt_f, ieq_t, ieq_f, c_rmI, setF_at, setF_ne, setF_setF, true_and, up1_at, up1_ne, pk_sub, pk_cpy_in, pk_cpy_out, Nat.zero_add, Nat.add_zero, Nat.zero_mul, Nat.sub_zero, Nat.add_sub_cancel_left, c_gfI h.ob, c_pfI h.ob, c_chkO h.ob, c_gfR h.ob h.rpool, c_ldI h.gpool, c_stI h.gpool, m_iAt, m_fAt, m_at, m_many h, L12, L13, L25, L144, L313, L4]
  have hz : ∀ z, 0 < z → z < 313 → N1 (p + 1) (1252 + z) = 0 := fun z a b => t3 z a b
  generalize hG : up1 (up1 (N1 (p + 1)) (313 * 4 + 1 + 0) 1) (313 * 4 + 13 + 0) (dec t i m) = G
  have g18 : setF N1 (p + 1) G p 18 = n := by rw [setF_ne (by omega), t1.1 p (by omega), setF_at, up1_ne (by omega)]; exact h18
  have g19 : setF N1 (p + 1) G p 19 = i + m := by rw [setF_ne (by omega), t1.1 p (by omega), setF_at, up1_at]
  have gt : ∀ k', k' < n → setF N1 (p + 1) G (p + 14) k' = t k' := fun k' hk' => by rw [setF_ne (by omega), t1.1 _ (by omega), setF_ne (by omega)]; exact ht k' hk'
  rw [m_fig h g18 hn g19 (by omega) gt h128, c_bnd]
  have hout : ∀ z, z < 313 * 4 ∨ 313 * 4 + 313 ≤ z → G z = N (p + 1) z := fun z a => by
    rw [← hG, up1_ne (by omega), up1_ne (by omega), t1.2 z a, setF_ne (by omega)]
  have post : mEf N (setF N1 (p + 1) G) p ∧ (∀ z, z < 313 * 4 ∨ 313 * 4 + 313 ≤ z → setF N1 (p + 1) G (p + 1) z = N (p + 1) z) ∧ (∀ y, y ≠ p → y ≠ p + 1 → setF N1 (p + 1) G y = N y) ∧ (∀ k, k ≠ 19 → setF N1 (p + 1) G p k = N p k) ∧ setF N1 (p + 1) G p 19 = i + m ∧ mAu (setF N1 (p + 1) G) p 4 (numA (dec t i m)) := by
    refine ⟨⟨fun z a => ?_, ?_, ?_, fun k a b => ?_, fun y a => ?_⟩, fun z a => ?_, fun y a b => ?_, fun k hk => ?_, g19, ?_⟩
    · rw [setF_at]; exact hout z (by omega)
    · rw [setF_ne (by omega), t1.1 _ (by omega), setF_ne (by omega)]
    · rw [setF_ne (by omega), t1.1 _ (by omega), setF_ne (by omega)]
    · rw [setF_ne (by omega), t1.1 p (by omega), setF_at, up1_ne (by omega)]
    · rw [setF_ne (by omega), t1.1 _ (by omega), setF_ne (by omega)]
    · rw [setF_at]; exact hout z a
    · rw [setF_ne b, t1.1 y (by omega), setF_ne a]
    · rw [setF_ne (by omega), t1.1 p (by omega), setF_at, up1_ne hk]
    · refine ⟨by rw [setF_at, ← hG, up1_ne (by omega), up1_ne (by omega)]; exact t2, fun k hk => ?_⟩
      have hk' : k < 1 := hk
      have hk0 : k = 0 := by omega
      subst hk0
      rw [setF_at, ← hG]
      refine ⟨?_, ?_, fun j l hj hl => ?_⟩
      · rw [up1_ne (by omega), up1_at]; rfl
      · rw [up1_at]; rfl
      · have hj' : j < 1 := hj
        rw [up1_ne (by omega), up1_ne (by omega), show 313 * 4 + 25 + 144 * l + 12 * 0 + j = 1252 + (25 + 144 * l + j) by omega]
        exact hz _ (by omega) (by omega)
  by_cases e1 : i + m < n ∧ isDg (t (i + m))
  · rw [b01_t e1, ieq_f (by omega) (by omega) (by omega)]
    exact mx_eq rfl post
  · rw [b01_f e1, ieq_t rfl]
    exact mx_eq rfl post
end MF
