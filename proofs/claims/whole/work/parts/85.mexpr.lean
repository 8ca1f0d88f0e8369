/-! ===== the model's expression: its steps ===== -/
def mEf (N N' : Mem) (p : Nat) : Prop := (∀ z, z < 1252 → N' (p + 1) z = N (p + 1) z) ∧ N' (p + 2) = N (p + 2) ∧ N' (p + 14) = N (p + 14) ∧ (∀ i, i ≠ 12 → i < 19 ∨ 23 ≤ i → N' p i = N p i) ∧ frA N N' p (p + 17)
def mV (N : Mem) (p d : Nat) (v : vs) : Prop := ∀ k, k ≤ d → (N (p + 16) k < 2 ∧ N (p + 16) k = v.2.2.1 k ∧ (v.2.2.1 k ≠ 0 → mAu N p (9 + 2 * k) (v.2.2.2.1 k))) ∧ N (p + 15) k < 2 ∧ N (p + 15) k = v.2.2.2.2.1 k ∧ (v.2.2.2.2.1 k ≠ 0 → mAu N p (8 + 2 * k) (v.2.2.2.2.2 k))
theorem ieq_f' {β : Type} {x y : β} {a : Nat} {dd : Decidable (nI a = 0)} (h : a ≠ 0) (ha : a < 2) : @ite β (nI a = 0) dd x y = y := if_neg (fun u => h ((nI_eq (b := 0) (by omega) (by omega)).mp u))
section ME
variable {Γ : zSh} {N N' N1 R : Mem} {J : Nat → Nat → Int64} {p q x y d c lo hi w f : Nat} {v : vs} {X Y A : Au}
theorem mEf.refl : mEf N N p := ⟨fun _ _ => rfl, rfl, rfl, fun _ _ _ => rfl, frA.refl⟩
theorem mEf.trans (h : mEf N N1 p) (k : mEf N1 N' p) : mEf N N' p := ⟨fun z a => (k.1 z a).trans (h.1 z a), k.2.1.trans h.2.1, k.2.2.1.trans h.2.2.1, fun i a b => (k.2.2.2.1 i a b).trans (h.2.2.2.1 i a b), h.2.2.2.2.trans k.2.2.2.2⟩
theorem mEf.fld (h1 : 19 ≤ x) (h2 : x < 23) : mEf N (setF N p (up1 (N p) x w)) p := ⟨fun z _ => by rw [setF_ne (by omega)], setF_ne (by omega), setF_ne (by omega), fun i _ hi => by rw [setF_at, up1_ne (by omega)], frA.set (by omega) (by omega)⟩
theorem mEf.arr (g : Nat → Nat) (h1 : p + 15 ≤ x) (h2 : x < p + 17) : mEf N (setF N x g) p := ⟨fun z _ => by rw [setF_ne (by omega)], setF_ne (by omega), setF_ne (by omega), fun i _ _ => by rw [setF_ne (by omega)], frA.set (by omega) (by omega)⟩
theorem mEf.pool (h : frP N N' p lo hi) (h1 : 1252 ≤ lo) : mEf N N' p := ⟨fun z hz => h.2 z (by omega), h.1 _ (by omega), h.1 _ (by omega), fun i _ _ => by rw [h.1 p (by omega)], fun x e => h.1 x (by omega)⟩
theorem m_copyA (h : mS Γ R p) (hx : x < 26) (hq : q < 26) (hxq : x ≠ q) : Mx (f_X7_copies Γ p (nI x) (nI q) (cS N R J)) (fun σ => ((), σ)) R J (fun N' => frP N N' p (313 * q) (313 * q + 313)) := by
  unfold f_X7_copies
  simp (disch := omega) only [c_bnd, c_chk, c_lb0, c_lb1, c_lb2, c_lb3, L0, L1, L2, L10007, nI_add, pk_mul, ile_t, ile_f, ilt_t, ilt_f, ieq_t, ieq_f, c_rmI, setF_at, setF_ne, setF_setF, true_and, up1_at, up1_ne, pk_sub, pk_cpy_in, pk_cpy_out, Nat.zero_add, Nat.add_zero, Nat.zero_mul, Nat.sub_zero, Nat.add_sub_cancel_left, c_gfI h.ob, c_pfI h.ob, c_chkO h.ob, c_gfR h.ob h.rpool, c_ldI h.gpool, c_stI h.gpool, m_iAt, m_fAt, m_at, m_many h, L12, L13, L25, L144, L313]
  refine mx_lb0 (mx_for (fun c N' => frP N N' p (313 * q) (313 * q + 313)) (s := 0) (e := 313) (by omega) (by omega) frP.refl ?_ ?_) ?_
  · intro c N1 _ hc p1
    show Mx (f_X7_copies_B2 _ _ _ _ _ _) _ _ _ _
    unfold f_X7_copies_B2
    simp (disch := omega) only [c_bnd, c_chk, c_lb0, c_lb1, c_lb2, c_lb3, L0, L1, L2, L10007, nI_add, pk_mul, ile_t, ile_f, ilt_t, ilt_f, ieq_t, ieq_f, c_rmI, setF_at, setF_ne, setF_setF, true_and, up1_at, up1_ne, pk_sub, pk_cpy_in, pk_cpy_out, Nat.zero_add, Nat.add_zero, Nat.zero_mul, Nat.sub_zero, Nat.add_sub_cancel_left, c_gfI h.ob, c_pfI h.ob, c_chkO h.ob, c_gfR h.ob h.rpool, c_ldI h.gpool, c_stI h.gpool, m_iAt, m_fAt, m_at, m_many h, L12, L13, L25, L144, L313]
    exact mx_eq rfl (p1.trans (frP.set (by omega) (by omega)))
  · intro N1 _
    show f_X7_copies_B2 _ _ _ _ _ _ = _
    unfold f_X7_copies_B2
    simp (disch := omega) only [c_bnd, c_chk, c_lb0, c_lb1, c_lb2, c_lb3, L0, L1, L2, L10007, nI_add, pk_mul, ile_t, ile_f, ilt_t, ilt_f, ieq_t, ieq_f, c_rmI, setF_at, setF_ne, setF_setF, true_and, up1_at, up1_ne, pk_sub, pk_cpy_in, pk_cpy_out, Nat.zero_add, Nat.add_zero, Nat.zero_mul, Nat.sub_zero, Nat.add_sub_cancel_left, L313]
  · intro N1 p1
    exact mx_eq rfl p1
/-- what an operation on an automaton of the pool keeps -/
def mOf (N N' : Mem) (p x : Nat) : Prop := (∀ z, z < 313 * x ∨ 313 * x + 313 ≤ z → z < 1565 ∨ 2504 ≤ z → N' (p + 1) z = N (p + 1) z) ∧ (∀ y, y ≠ p → y ≠ p + 1 → y < p + 3 ∨ p + 12 ≤ y → N' y = N y) ∧ ∀ i, i ≠ 12 → i ≠ 22 → N' p i = N p i
theorem mOf.toE (h : mOf N N' p x) (hx : 4 ≤ x) : mEf N N' p := ⟨fun z hz => h.1 z (by omega) (by omega), h.2.1 _ (by omega) (by omega) (by omega), h.2.1 _ (by omega) (by omega) (by omega), fun i a b => h.2.2 i a (by omega), fun y e => h.2.1 y (by omega) (by omega) (by omega)⟩
theorem mOf.of (h : frP N N' p (313 * x) (313 * x + 313)) : mOf N N' p x := ⟨fun z a _ => h.2 z a, fun y a b c => h.1 y (by omega), fun i _ _ => by rw [h.1 p (by omega)]⟩
theorem mOf.au (h : mOf N N' p x) (hA : mAu N p q A) (h12 : A.1 ≤ 12) (hq : 8 ≤ q ∨ q < 5) (hne : q ≠ x) : mAu N' p q A := by
  refine ⟨by rw [h.1 _ (by omega) (by omega)]; exact hA.1, fun i hi => ⟨?_, ?_, fun j l hj hl => ?_⟩⟩
  · rw [h.1 _ (by omega) (by omega)]; exact (hA.2 i hi).1
  · rw [h.1 _ (by omega) (by omega)]; exact (hA.2 i hi).2.1
  · rw [h.1 _ (by omega) (by omega)]; exact (hA.2 i hi).2.2 j l hj hl
theorem m_opr (h : mS Γ R p) (hx : 8 ≤ x ∧ x < 26) (hy : y < 26 ∧ (8 ≤ y ∨ y = 4)) (hf : N p 22 = f) (hf2 : f < 2) {kind : Nat} (hk : kind < 3) (hXY : f = 0 → (mAu N p x X ∧ X.1 ≤ 12 ∧ okA X) ∧ mAu N p y Y ∧ Y.1 ≤ 12 ∧ okA Y) : Mx (f_X7_operates Γ p (nI x) (nI y) (nI kind) (cS N R J)) (fun σ => ((), σ)) R J (fun N' => mOf N N' p x ∧ N' p 22 = (if f = 0 ∧ (comA X Y kind).1 ≤ 12 then 0 else 1) ∧ (f = 0 → (comA X Y kind).1 ≤ 12 → mAu N' p x (minA (comA X Y kind)))) := by
  unfold f_X7_operates f_X7_operates_L20
  have bad : ¬ (f = 0 ∧ (comA X Y kind).1 ≤ 12) → Mx (f_X7_operates_L25 Γ p (nI x) (nI y) (nI kind) 1 p (cS N R J)) (fun σ => ((), σ)) R J (fun N' => mOf N N' p x ∧ N' p 22 = (if f = 0 ∧ (comA X Y kind).1 ≤ 12 then 0 else 1) ∧ (f = 0 → (comA X Y kind).1 ≤ 12 → mAu N' p x (minA (comA X Y kind)))) := by
    intro hb
    unfold f_X7_operates_L25 f_X7_operates_L48
    rw [L1, c_pfZ h.ob (by omega), c_gfI h.ob, setF_at, up1_at, if_neg m1n0, if_neg hb]
    exact mx_eq rfl ⟨⟨fun z _ _ => by rw [setF_ne (by omega)], fun y a b c => setF_ne a, fun i a b => by rw [setF_at, up1_ne b]⟩, by rw [setF_at, up1_at], fun a b => absurd ⟨a, b⟩ hb⟩
  rw [c_gfI h.ob, hf]
  by_cases e0 : f = 0
  · obtain ⟨⟨x1, x2, x3⟩, y1, y2, y3⟩ := hXY e0
    have hn := comA_n (X := X) (Y := Y) (kind := kind)
    have hmm : X.1 * Y.1 ≤ 12 * 12 := Nat.mul_le_mul x2 y2
    have hn2 : (comA X Y kind).1 ≤ 144 := by
      rw [hn]
      by_cases e9 : kind = 1
      · rw [if_pos e9]; omega
      · rw [if_neg e9]; omega
    rw [e0, if_pos m0e, c_chkO h.ob, m_manyOf h (by omega) (by omega) x1 y1 (by omega), c_bnd, L12]
    by_cases e5 : (comA X Y kind).1 ≤ 12
    · rw [ile_t e5 (by omega), if_pos ⟨rfl, e5⟩]
      unfold f_X7_operates_L25 f_X7_operates_L48
      have f1 : mOf N (setF N p (up1 (N p) 22 0)) p x := ⟨fun z _ _ => by rw [setF_ne (by omega)], fun y a b c => setF_ne a, fun i a b => by rw [setF_at, up1_ne b]⟩
      have x1' : mAu (setF N p (up1 (N p) 22 0)) p x X := x1.eq (setF_ne (by omega))
      have y1' : mAu (setF N p (up1 (N p) 22 0)) p y Y := y1.eq (setF_ne (by omega))
      rw [L0, c_pfZ h.ob (by omega), c_gfI h.ob, setF_at, up1_at, ieq_t rfl, c_chkO h.ob]
      refine mx_bnd (m_combines h (by omega) (by omega) (by omega) (by omega) x1' y1' x2 y2 x3 y3 hk e5) ?_
      intro N2 ⟨t1, t2⟩
      rw [c_chkO h.ob, L5]
      refine mx_bnd (m_minimizes h (x := 5) (q := x) (by omega) (by omega) (by omega) (by omega) t2 e5 (comA_ok x3 y3)) ?_
      intro N3 ⟨t3, t4, t5⟩
      refine mx_eq rfl ⟨⟨fun z a b => ?_, fun y a b c => ?_, fun i a b => ?_⟩, ?_, fun _ _ => t5⟩
      · rw [t4 z (by omega) (by omega), t1.2 z (by omega)]
        exact f1.1 z a b
      · rw [t3.1 y a b c, t1.1 y (by omega)]
        exact f1.2.1 y a b c
      · rw [t3.2 i a, t1.1 p (by omega)]
        exact f1.2.2 i a b
      · rw [t3.2 22 (by omega), t1.1 p (by omega), setF_at, up1_at]
    · rw [ile_f (by omega) (by omega)]
      have := bad (fun u => e5 u.2)
      rw [e0] at this
      exact this
  · rw [ieq_f' e0 hf2]
    exact bad (fun u => e0 u.1)
/-- closing a factor, whether it failed before or not -/
noncomputable def clF' (d : Nat) (v : vs) : vs := if v.1 = 0 then clF d v else v
noncomputable def cl2' (d : Nat) (v : vs) : vs := if v.1 = 0 then cl2 d v else v
theorem m_clF (h : mS Γ R p) (hd : d ≤ 8) (h20 : N p 20 = d) (h22 : N p 22 = v.1) (hfl : v.1 ≤ 1) (hI : vI v) (hV : v.1 = 0 → mV N p d v ∧ mAu N p 4 v.2.1) : Mx (f_X7_endsFactor Γ p (cS N R J)) (fun σ => ((), σ)) R J (fun N' => mEf N N' p ∧ N' p 19 = N p 19 ∧ N' p 20 = d ∧ N' p 21 = 0 ∧ N' p 22 = (clF' d v).1 ∧ ((clF' d v).1 = 0 → mV N' p d (clF' d v))) := by
  unfold f_X7_endsFactor f_X7_endsFactor_L48
  have hrh : R p 24 = p + 16 := h.rhprod
  have hgh : Γ (p + 16) = some (1, 9) := h.ghprod
  rw [c_gfI h.ob, h20, c_gfR h.ob hrh (by omega), c_gfI h.ob, h20, c_ldZ hgh (by omega) (by omega), L2, pk_mul, L9, nI_add, L4]
  by_cases e0 : v.1 = 0
  · obtain ⟨hV, hF⟩ := hV e0
    obtain ⟨⟨b1, b2, b3⟩, b4, b5, b6⟩ := hV d (Nat.le_refl d)
    have hc : clF' d v = clF d v := if_pos e0
    have hcl : clF d v = if v.2.2.1 d = 0 then (0, v.2.1, up1 v.2.2.1 d 1, up v.2.2.2.1 d v.2.1, v.2.2.2.2) else if (v.2.2.2.1 d).1 + v.2.1.1 ≤ 12 then (0, v.2.1, v.2.2.1, up v.2.2.2.1 d (minA (cauA (v.2.2.2.1 d) v.2.1)), v.2.2.2.2) else (1, v.2) := rfl
    rw [hc]
    by_cases e1 : v.2.2.1 d = 0
    · rw [if_pos e1] at hcl
      rw [hcl, b2, e1, if_pos m0e, c_chkO h.ob]
      refine mx_bnd (m_copies h (x := 4) (q := 9 + 2 * d) (by omega) (by omega) (by omega) hF hI.1.2) ?_
      intro N2 ⟨t1, t2⟩
      have o1 := mOf.of t1
      rw [c_gfR h.ob hrh (by omega), c_gfI h.ob, t1.1 p (by omega), h20, L1, c_stZ hgh (by omega) (by omega) (by omega), L0, c_pfZ h.ob (by omega)]
      refine mx_eq rfl ⟨((mEf.pool t1 (by omega)).trans (mEf.arr _ (by omega) (by omega))).trans (mEf.fld (by omega) (by omega)), ?_, ?_, ?_, ?_, fun _ k hk => ?_⟩
      · rw [setF_at, up1_ne (by omega), setF_ne (by omega), t1.1 p (by omega)]
      · rw [setF_at, up1_ne (by omega), setF_ne (by omega), t1.1 p (by omega)]; exact h20
      · rw [setF_at, up1_at]
      · rw [setF_at, up1_ne (by omega), setF_ne (by omega), t1.1 p (by omega), h22]; exact e0
      · obtain ⟨⟨c1, c2, c3⟩, c4, c5, c6⟩ := hV k hk
        have e15 : setF (setF N2 (p + 16) (up1 (N2 (p + 16)) d 1)) p (up1 (setF N2 (p + 16) (up1 (N2 (p + 16)) d 1) p) 21 0) (p + 15) k = N (p + 15) k := by rw [setF_ne (by omega), setF_ne (by omega), t1.1 _ (by omega)]
        have e16 : setF (setF N2 (p + 16) (up1 (N2 (p + 16)) d 1)) p (up1 (setF N2 (p + 16) (up1 (N2 (p + 16)) d 1) p) 21 0) (p + 16) k = up1 (N (p + 16)) d 1 k := by rw [setF_ne (by omega), setF_at, t1.1 (p + 16) (by omega)]
        have ep : setF (setF N2 (p + 16) (up1 (N2 (p + 16)) d 1)) p (up1 (setF N2 (p + 16) (up1 (N2 (p + 16)) d 1) p) 21 0) (p + 1) = N2 (p + 1) := by rw [setF_ne (by omega), setF_ne (by omega)]
        rw [e15, e16]
        refine ⟨?_, c4, c5, fun u => (o1.au (c6 u) (hI.2 k).2.2 (by omega) (by omega)).eq ep⟩
        by_cases e2 : k = d
        · subst e2
          refine ⟨by rw [up1_at]; omega, ?_, fun _ => ?_⟩
          · show _ = up1 _ k 1 k
            rw [up1_at, up1_at]
          · show mAu _ p _ (up v.2.2.2.1 k v.2.1 k)
            rw [up_at]
            exact t2.eq ep
        · refine ⟨by rw [up1_ne e2]; exact c1, ?_, fun u => ?_⟩
          · show _ = up1 _ d 1 k
            rw [up1_ne e2, up1_ne e2]
            exact c2
          · show mAu _ p _ (up v.2.2.2.1 d v.2.1 k)
            have u' : up1 v.2.2.1 d 1 k ≠ 0 := u
            rw [up1_ne e2] at u'
            rw [up_ne e2]
            exact (o1.au (c3 u') (hI.2 k).1.2 (by omega) (by omega)).eq ep
    · rw [if_neg e1] at hcl
      rw [hcl, ieq_f' (by omega) b1, c_chkO h.ob]
      have hIP := (hI.2 d).1
      have hcc : comA (v.2.2.2.1 d) v.2.1 2 = cauA (v.2.2.2.1 d) v.2.1 := rfl
      refine mx_bnd (m_opr (X := v.2.2.2.1 d) (Y := v.2.1) h (x := 9 + 2 * d) (y := 4) (by omega) (by omega) h22 (by omega) (kind := 2) (by omega) (fun _ => ⟨⟨b3 e1, hIP.2, hIP.1⟩, hF, hI.1.2, hI.1.1⟩)) ?_
      intro N2 ⟨t1, t2, t3⟩
      rw [hcc] at t2 t3
      rw [L0, c_pfZ h.ob (by omega)]
      have ep : setF N2 p (up1 (N2 p) 21 0) (p + 1) = N2 (p + 1) := setF_ne (by omega)
      refine mx_eq rfl ⟨(t1.toE (by omega)).trans (mEf.fld (by omega) (by omega)), ?_, ?_, ?_, ?_, fun hz k hk => ?_⟩
      · rw [setF_at, up1_ne (by omega)]; exact t1.2.2 19 (by omega) (by omega)
      · rw [setF_at, up1_ne (by omega), t1.2.2 20 (by omega) (by omega)]; exact h20
      · rw [setF_at, up1_at]
      · rw [setF_at, up1_ne (by omega), t2]
        show _ = (if (v.2.2.2.1 d).1 + v.2.1.1 ≤ 12 then _ else _ : vs).1
        by_cases e2 : (v.2.2.2.1 d).1 + v.2.1.1 ≤ 12
        · rw [if_pos e2, if_pos ⟨e0, e2⟩]
        · rw [if_neg e2, if_neg (fun u => e2 u.2)]
      · by_cases e2 : (v.2.2.2.1 d).1 + v.2.1.1 ≤ 12
        · rw [if_pos e2]
          obtain ⟨⟨c1, c2, c3⟩, c4, c5, c6⟩ := hV k hk
          rw [setF_ne (show p + 16 ≠ p by omega), setF_ne (show p + 15 ≠ p by omega), t1.2.1 (p + 16) (by omega) (by omega) (by omega), t1.2.1 (p + 15) (by omega) (by omega) (by omega)]
          refine ⟨⟨c1, c2, fun u => ?_⟩, c4, c5, fun u => (t1.au (c6 u) (hI.2 k).2.2 (by omega) (by omega)).eq ep⟩
          show mAu _ p _ (up v.2.2.2.1 d _ k)
          by_cases e3 : k = d
          · subst e3
            rw [up_at]
            exact (t3 e0 e2).eq ep
          · rw [up_ne e3]
            exact (t1.au (c3 u) (hI.2 k).1.2 (by omega) (by omega)).eq ep
        · rw [if_neg e2] at hz
          exact absurd hz (show (1 : Nat) ≠ 0 by omega)
  · have hc : clF' d v = v := if_neg e0
    rw [hc]
    by_cases e1 : nI (N (p + 16) d) = 0
    · rw [if_pos e1, c_chkO h.ob]
      refine mx_bnd (m_copyA h (x := 4) (q := 9 + 2 * d) (by omega) (by omega) (by omega)) ?_
      intro N2 t1
      rw [c_gfR h.ob hrh (by omega), c_gfI h.ob, t1.1 p (by omega), h20, L1, c_stZ hgh (by omega) (by omega) (by omega), L0, c_pfZ h.ob (by omega)]
      refine mx_eq rfl ⟨((mEf.pool t1 (by omega)).trans (mEf.arr _ (by omega) (by omega))).trans (mEf.fld (by omega) (by omega)), ?_, ?_, ?_, ?_, fun u => absurd u e0⟩
      · rw [setF_at, up1_ne (by omega), setF_ne (by omega), t1.1 p (by omega)]
      · rw [setF_at, up1_ne (by omega), setF_ne (by omega), t1.1 p (by omega)]; exact h20
      · rw [setF_at, up1_at]
      · rw [setF_at, up1_ne (by omega), setF_ne (by omega), t1.1 p (by omega)]; exact h22
    · rw [if_neg e1, c_chkO h.ob]
      refine mx_bnd (m_opr (X := v.2.1) (Y := v.2.1) h (x := 9 + 2 * d) (y := 4) (by omega) (by omega) h22 (by omega) (kind := 2) (by omega) (fun u => absurd u e0)) ?_
      intro N2 ⟨t1, t2, t3⟩
      rw [L0, c_pfZ h.ob (by omega)]
      refine mx_eq rfl ⟨(t1.toE (by omega)).trans (mEf.fld (by omega) (by omega)), ?_, ?_, ?_, ?_, fun u => absurd u e0⟩
      · rw [setF_at, up1_ne (by omega)]; exact t1.2.2 19 (by omega) (by omega)
      · rw [setF_at, up1_ne (by omega), t1.2.2 20 (by omega) (by omega)]; exact h20
      · rw [setF_at, up1_at]
      · rw [setF_at, up1_ne (by omega), t2, if_neg (fun u => e0 u.1)]; omega
end ME
