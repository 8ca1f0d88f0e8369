/-! ===== the model: parse ===== -/
theorem vsN_42 {v : vs} {s : syS} {c : Nat} (h : c = 42) : vsN v s c = vsF' v := by
  unfold vsN vsF'
  by_cases e : v.1 = 0
  · rw [if_pos e, if_pos e, if_pos h]
  · rw [if_neg e, if_neg e]
theorem vsN_43 {v : vs} {s : syS} {c : Nat} (h : c = 43) : vsN v s c = cl2' s.1 v := by
  unfold vsN cl2'
  by_cases e : v.1 = 0
  · rw [if_pos e, if_pos e, if_neg (by omega), if_pos h]
  · rw [if_neg e, if_neg e]
theorem vsN_41 {v : vs} {s : syS} {c : Nat} (h : c = 41) : vsN v s c = vsC s.1 (cl2' s.1 v) := by
  unfold vsN cl2'
  by_cases e : v.1 = 0
  · rw [if_pos e, if_pos e, if_neg (by omega), if_neg (by omega), if_pos h]
  · rw [if_neg e, if_neg e]
    exact (if_neg e).symm
theorem cl2'_hS {d : Nat} {v : vs} (h : (cl2' d v).1 = 0) : (cl2' d v).2.2.2.2.1 d ≠ 0 ∨ v.1 = 1 := by
  rw [cl2'_eq] at h ⊢
  by_cases e : (clF' d v).1 = 0
  · rw [if_pos e] at h ⊢
    exact Or.inl (clP_hS h)
  · rw [if_neg e] at h
    exact absurd h e
theorem cl2'_fl {d : Nat} {v : vs} (h : v.1 ≤ 1) : (cl2' d v).1 ≤ 1 := by
  rw [cl2'_eq]
  by_cases e : (clF' d v).1 = 0
  · rw [if_pos e]; exact fl_clP
  · rw [if_neg e]; exact clF'_fl h
theorem cl2'_I {d : Nat} {v : vs} (h : vI v) : vI (cl2' d v) := by
  unfold cl2'
  by_cases e : v.1 = 0
  · rw [if_pos e]; exact cl2_I h
  · rw [if_neg e]; exact h
theorem c_lbrl {B ρ β : Type} {b : B} {g : ρ → zSt → Option β} {f : Option B → Option β} : lbr (some (.inl b)) g f = f (some b) := rfl
section MPX
variable {Γ : zSh} {N N' N1 R : Mem} {J : Nat → Nat → Int64} {p c n i d q : Nat} {v : vs} {t : Nat → Nat} {S : tS} {x : Int32}
theorem mV.eq (hV : mV N1 p d v) (h15 : N' (p + 15) = N1 (p + 15)) (h16 : N' (p + 16) = N1 (p + 16)) (hp : N' (p + 1) = N1 (p + 1)) : mV N' p d v := by
  intro k hk
  obtain ⟨⟨c1, c2, c3⟩, c4, c5, c6⟩ := hV k hk
  rw [h15, h16]
  exact ⟨⟨c1, c2, fun u => (c3 u).eq hp⟩, c4, c5, fun u => (c6 u).eq hp⟩
theorem m_next (h : mS Γ R p) (h18 : N p 18 = n) (hn : n ≤ 60) (ht : ∀ k, k < n → N (p + 14) k = t k) (h128 : ∀ k, k < n → t k < 128) (hi : i < n) (hall : ∀ k, k < i → bdT t k = 0) (hR : mR N p t i) (hg : (syT t i).2.1 = 0 ∨ ¬ isDg (t i)) : ∃ N' r, f_X7_readsNext Γ p (cS N R J) = some (r, cS N' R J) ∧ nxt N N' p t n i r := by
  obtain ⟨⟨s1, s2, s3⟩, _, _, hI, _⟩ := sInv_all i hall
  have hfl := vl_fl (t := t) i
  have hci := h128 i hi
  have hs : syT t (i + 1) = syN (syT t i) (t i) := rfl
  have hv : vlT t (i + 1) = vsN (vlT t i) (syT t i) (t i) := rfl
  obtain ⟨r1, r2, r3, r4, r5⟩ := id hR
  have fac : (t i = 40 ∨ t i = 97 ∨ t i = 98 ∨ isDg (t i)) → ∃ N' r, f_X7_readsNext_L42 Γ p (nI (t i)) (cS N R J) = some (r, cS N' R J) ∧ nxt N N' p t n i r := by
    intro hc
    obtain ⟨N2, r, t0, t1⟩ := m_fac (J := J) h h18 hn ht h128 hi hall hR hc (fun u => hg.elim id (fun w => absurd u w))
    unfold f_X7_readsNext_L42
    have hr : r = nI 0 ∨ r = nI 1 := t1.2.elim (fun u => Or.inl u.1) (fun u => Or.inr u.1)
    rw [c_chkO h.ob, t0, c_bnd]
    refine ⟨N2, r, ?_, t1⟩
    rcases hr with rfl | rfl <;> rfl
  have bad : bdT t i ≠ 0 → ∃ N' r, f_X7_readsNext_L86 Γ (cS N R J) = some (r, cS N' R J) ∧ nxt N N' p t n i r := fun hb => ⟨N, _, rfl, mEf.refl, Or.inl ⟨rfl, i, r1, hi, hb, hall⟩⟩
  unfold f_X7_readsNext
  rw [c_gfR h.ob h.rtext (by omega), c_gfI h.ob, r1, c_ldI h.gtext (by omega) (by omega), ht i hi, L97, L98, L40, L41, L42, L43]
  by_cases c97 : t i = 97
  · rw [ieq_t c97]; exact fac (by omega)
  rw [ieq_f c97 (by omega) (by omega)]
  by_cases c98 : t i = 98
  · rw [ieq_t c98]; exact fac (by omega)
  rw [ieq_f c98 (by omega) (by omega)]
  by_cases c40 : t i = 40
  · rw [ieq_t c40]; exact fac (by omega)
  rw [ieq_f c40 (by omega) (by omega), m_in (l := 48) (h := 57) (by decide) (by decide), c_bnd, nI_toInt (by omega)]
  by_cases hd : isDg (t i)
  · rw [b01_t (show (48 : Int) ≤ (t i : Int) ∧ (t i : Int) ≤ 57 from ⟨by have := hd.1; omega, by have := hd.2; omega⟩), if_neg m1n0]
    exact fac (Or.inr (Or.inr (Or.inr hd)))
  rw [b01_f (show ¬ ((48 : Int) ≤ (t i : Int) ∧ (t i : Int) ≤ 57) from fun u => hd ⟨by omega, by omega⟩), if_pos m0e, c_gfI h.ob, r3]
  by_cases hst : (syT t i).2.2 = 1
  rotate_left
  · rw [show (syT t i).2.2 = 0 by omega, if_pos m0e]
    refine bad ?_
    unfold bdT
    by_cases c41 : t i = 41
    · rw [c41, bad_41, if_neg (fun u => hst u.1)]; omega
    · by_cases c4 : t i = 42 ∨ t i = 43
      · rw [bad_op c4, if_neg hst]; omega
      · rw [bad_no hd c40 c41 (by omega) (by omega) c97 c98]; omega
  rw [hst, if_neg m1n0]
  have y2 : (syT t (i + 1)).2.1 = 0 := by rw [hs]; exact if_neg hd
  have hb1 : bdT t i = 0 → ∀ k, k < i + 1 → bdT t k = 0 := fun hb k hk => by
    by_cases e : k = i
    · rw [e]; exact hb
    · exact hall k (by omega)
  -- the last step
  have l140 : ∀ (N2 : Mem), mEf N N2 p → N2 p 19 = i → bdT t i = 0 → N2 p 20 = (syT t (i + 1)).1 → N2 p 21 = (syT t (i + 1)).2.2 → N2 p 22 = (vlT t (i + 1)).1 → ((vlT t (i + 1)).1 = 0 → mV N2 p (syT t (i + 1)).1 (vlT t (i + 1)) ∧ ((syT t (i + 1)).2.2 = 1 → mAu N2 p 4 (vlT t (i + 1)).2.1)) → ∃ N' r, f_X7_readsNext_L140 Γ p (cS N2 R J) = some (r, cS N' R J) ∧ nxt N N' p t n i r := by
    intro N2 w1 w2 w3 w4 w5 w6 w7
    unfold f_X7_readsNext_L140
    rw [c_gfI h.ob, w2, L1, nI_add, c_pfI h.ob]
    refine ⟨_, nI 1, rfl, w1.trans (mEf.fld (by omega) (by omega)), Or.inr ⟨rfl, i + 1, by omega, by omega, hb1 w3, ⟨?_, ?_, ?_, ?_, fun hz => ?_⟩, Or.inl y2⟩⟩
    · rw [setF_at, up1_at]
    · rw [setF_at, up1_ne (by omega)]; exact w4
    · rw [setF_at, up1_ne (by omega)]; exact w5
    · rw [setF_at, up1_ne (by omega)]; exact w6
    · obtain ⟨a, b⟩ := w7 hz
      exact ⟨a.eq (setF_ne (by omega)) (setF_ne (by omega)) (setF_ne (by omega)), fun u => (b u).eq (setF_ne (by omega))⟩
  by_cases c42 : t i = 42
  · have hb : bdT t i = 0 := by unfold bdT; rw [bad_op (Or.inl c42), if_pos hst]
    have y1 : (syT t (i + 1)).1 = (syT t i).1 := by rw [hs]; show (if t i = 40 then _ else if t i = 41 then _ else _) = _; rw [if_neg c40, if_neg (by omega)]
    have y3 : (syT t (i + 1)).2.2 = 1 := by rw [hs]; exact if_neg (by omega)
    obtain ⟨N2, t0, t1, t2, t3, t4, t5, t6⟩ := m_rep (J := J) h s1 r4 hfl hI (fun u => ⟨(r5 u).1, (r5 u).2 hst⟩)
    rw [ieq_t c42]
    unfold f_X7_readsNext_L73 f_X7_readsNext_L88
    rw [L41, ieq_f (show t i ≠ 41 by omega) (by omega) (by omega), L42, ieq_t c42, c_chkO h.ob, t0, c_bnd]
    refine l140 N2 t1 (by rw [t2]; exact r1) hb (by rw [t3, y1]; exact r2) (by rw [t4, y3, r3]; exact hst) (by rw [t5, hv, vsN_42 c42]) (fun hz => ?_)
    rw [hv, vsN_42 c42] at hz ⊢
    rw [y1]
    exact ⟨(t6 hz).1, fun _ => (t6 hz).2⟩
  rw [ieq_f c42 (by omega) (by omega)]
  by_cases c43 : t i = 43
  · have hb : bdT t i = 0 := by unfold bdT; rw [bad_op (Or.inr c43), if_pos hst]
    have y1 : (syT t (i + 1)).1 = (syT t i).1 := by rw [hs]; show (if t i = 40 then _ else if t i = 41 then _ else _) = _; rw [if_neg c40, if_neg (by omega)]
    have y3 : (syT t (i + 1)).2.2 = 0 := by rw [hs]; exact if_pos (Or.inr c43)
    obtain ⟨N2, t0, t1, t2, t3, t4, t5, t6⟩ := m_cl2 (J := J) h s1 r2 r4 hfl hI (fun u => ⟨(r5 u).1, (r5 u).2 hst⟩)
    rw [ieq_t c43]
    unfold f_X7_readsNext_L73 f_X7_readsNext_L88
    rw [L41, ieq_f (show t i ≠ 41 by omega) (by omega) (by omega), L42, ieq_f c42 (by omega) (by omega), c_chkO h.ob, t0, c_bnd, ieq_f (show t i ≠ 41 by omega) (by omega) (by omega)]
    refine l140 N2 t1 (by rw [t2]; exact r1) hb (by rw [t3, y1]) (by rw [t4, y3]) (by rw [t5, hv, vsN_43 c43]) (fun hz => ?_)
    rw [hv, vsN_43 c43] at hz ⊢
    rw [y1]
    exact ⟨t6 hz, fun u => absurd u (by rw [y3]; omega)⟩
  rw [ieq_f c43 (by omega) (by omega)]
  by_cases c41 : t i = 41
  · rw [ieq_t c41]
    unfold f_X7_readsNext_L73
    rw [L41, ieq_t c41, c_gfI h.ob, r2]
    by_cases hd0 : (syT t i).1 = 0
    · rw [hd0, if_pos m0e]
      refine bad ?_
      unfold bdT
      rw [c41, bad_41, if_neg (fun u => by omega)]
      omega
    · have hb : bdT t i = 0 := by unfold bdT; rw [c41, bad_41, if_pos ⟨hst, by omega⟩]
      have y1 : (syT t (i + 1)).1 = (syT t i).1 - 1 := by rw [hs]; show (if t i = 40 then _ else if t i = 41 then _ else _) = _; rw [if_neg c40, if_pos c41]
      have y3 : (syT t (i + 1)).2.2 = 1 := by rw [hs]; exact if_neg (by omega)
      obtain ⟨N2, t0, t1, t2, t3, t4, t5, t6⟩ := m_cl2 (J := J) h s1 r2 r4 hfl hI (fun u => ⟨(r5 u).1, (r5 u).2 hst⟩)
      have hv2 := hv.trans (vsN_41 c41)
      have hwI := cl2'_I (d := (syT t i).1) hI
      have hS : (cl2' (syT t i).1 (vlT t i)).1 = 0 → (cl2' (syT t i).1 (vlT t i)).2.2.2.2.1 (syT t i).1 ≠ 0 := fun u => (cl2'_hS u).elim id (fun w => by
        have : cl2' (syT t i).1 (vlT t i) = vlT t i := if_neg (by omega)
        rw [this] at u
        omega)
      unfold f_X7_readsNext_L88
      rw [show (if nI (syT t i).1 = (0 : Int32) then f_X7_readsNext_L86 Γ (cS N R J) else (if nI (t i) = 42 then chk (isO Γ p 7) (bnd (f_X7_starsFactor Γ p (cS N R J)) fun _ σ17 => f_X7_readsNext_L140 Γ p σ17) else chk (isO Γ p 7) (bnd (f_X7_endsProduct Γ p (cS N R J)) fun _ σ9 => if nI (t i) = 41 then gfI Γ σ9 p 7 20 fun v12 => chk (isO Γ p 7) (bnd (f_X7_copies Γ p (8 + 2 * v12) 4 σ9) fun _ σ13 => gfI Γ σ13 p 7 20 fun v14 => pfI Γ σ13 p 7 20 (v14 - 1) fun σ15 => pfZ Γ σ15 p 7 21 1 fun σ16 => f_X7_readsNext_L140 Γ p σ16) else f_X7_readsNext_L140 Γ p σ9))) = _ from if_neg (fun u => hd0 ((nI_eq (b := 0) (by omega) (by omega)).mp u))]
      rw [L42, ieq_f c42 (by omega) (by omega), c_chkO h.ob, t0, c_bnd, L41, ieq_t c41, c_gfI h.ob, t3, c_chkO h.ob, L2, pk_mul, L8, nI_add, L4]
      -- the sum is copied
      have cp : ∃ N3, f_X7_copies Γ p (nI (8 + 2 * (syT t i).1)) (nI 4) (cS N2 R J) = some ((), cS N3 R J) ∧ frP N2 N3 p (313 * 4) (313 * 4 + 313) ∧ ((cl2' (syT t i).1 (vlT t i)).1 = 0 → mAu N3 p 4 ((cl2' (syT t i).1 (vlT t i)).2.2.2.2.2 (syT t i).1)) := by
        by_cases e : (cl2' (syT t i).1 (vlT t i)).1 = 0
        · obtain ⟨N3, u0, u1, u2⟩ := m_copies (J := J) h (x := 8 + 2 * (syT t i).1) (q := 4) (by omega) (by omega) (by omega) (((t6 e) _ (Nat.le_refl _)).2.2.2 (hS e)) (hwI.2 _).2.2
          exact ⟨N3, u0, u1, fun _ => u2⟩
        · obtain ⟨N3, u0, u1⟩ := m_copyA (J := J) (N := N2) h (x := 8 + 2 * (syT t i).1) (q := 4) (by omega) (by omega) (by omega)
          exact ⟨N3, u0, u1, fun u => absurd u e⟩
      obtain ⟨N3, u0, u1, u2⟩ := cp
      rw [u0, c_bnd, c_gfI h.ob, u1.1 p (by omega), t3, L1, pk_sub (by omega), c_pfI h.ob, c_pfZ h.ob (by omega)]
      rw [setF_at, setF_setF]
      generalize hG : up1 (up1 (N3 p) 20 ((syT t i).1 - 1)) 21 1 = G
      have ef : mEf N3 (setF N3 p G) p := ⟨fun z _ => by rw [setF_ne (by omega)], setF_ne (by omega), setF_ne (by omega), fun k _ hk => by rw [setF_at, ← hG, up1_ne (by omega), up1_ne (by omega)], frA.set (by omega) (by omega)⟩
      refine l140 (setF N3 p G) ((t1.trans (mEf.pool u1 (by omega))).trans ef) ?_ hb ?_ ?_ ?_ (fun hz => ?_)
      · rw [setF_at, ← hG, up1_ne (by omega), up1_ne (by omega), u1.1 p (by omega), t2]; exact r1
      · rw [setF_at, ← hG, up1_ne (by omega), up1_at, y1]
      · rw [setF_at, ← hG, up1_at, y3]
      · rw [setF_at, ← hG, up1_ne (by omega), up1_ne (by omega), u1.1 p (by omega), t5, hv2]
        unfold vsC
        by_cases e : (cl2' (syT t i).1 (vlT t i)).1 = 0
        · rw [if_pos e, e]
        · rw [if_neg e]
      · by_cases e : (cl2' (syT t i).1 (vlT t i)).1 = 0
        · have hC : vsC (syT t i).1 (cl2' (syT t i).1 (vlT t i)) = (0, (cl2' (syT t i).1 (vlT t i)).2.2.2.2.2 (syT t i).1, (cl2' (syT t i).1 (vlT t i)).2.2) := if_pos e
          rw [hv2, hC, y1]
          refine ⟨fun k hk => ?_, fun _ => (u2 e).eq (setF_ne (by omega))⟩
          exact mV_pool (v := cl2' (syT t i).1 (vlT t i)) s1 hwI (t6 e) (by rw [setF_ne (by omega), u1.1 _ (by omega)]) (by rw [setF_ne (by omega), u1.1 _ (by omega)]) (fun z a => by rw [setF_ne (by omega)]; exact u1.2 z a) k (by omega)
        · have hC : vsC (syT t i).1 (cl2' (syT t i).1 (vlT t i)) = cl2' (syT t i).1 (vlT t i) := if_neg e
          rw [hv2, hC] at hz
          exact absurd hz e
  · rw [ieq_f c41 (by omega) (by omega)]
    refine bad ?_
    unfold bdT
    rw [bad_no hd c40 c41 c42 c43 c97 c98]
    omega
theorem MI.ef (h : MI Γ N R p S) (hI : tI S) (e : mEf N N' p) : MI Γ N' R p S := by
  obtain ⟨h1, ⟨k1, k2, k3⟩, h2, h3⟩ := h
  obtain ⟨e1, e2, e3, e4, _⟩ := e
  refine ⟨h1, ⟨by rw [e4 2 (by omega) (by omega)]; exact k1, fun q hq => ?_, fun k q hk hq => ?_⟩, by rw [e4 18 (by omega) (by omega)]; exact h2, fun i hi => by rw [e3]; exact h3 i hi⟩
  · have h4 := k2 q hq
    have h12 := (hI.1.2.1 S.1.1 q (Nat.le_refl _) hq).2
    refine ⟨by rw [e1 _ (by omega)]; exact h4.1, fun i hi => ⟨?_, ?_, fun j l hj hl => ?_⟩⟩
    · rw [e1 _ (by omega)]; exact (h4.2 i hi).1
    · rw [e1 _ (by omega)]; exact (h4.2 i hi).2.1
    · rw [e1 _ (by omega)]; exact (h4.2 i hi).2.2 j l hj hl
  · have := k3 k q hk hq
    unfold mSn at this ⊢
    rw [e2]
    exact this
theorem m_parse (h : MI Γ N R p S) (hI : tI S) : MX Γ N R J p (f_X7_parse Γ p x (cS N R J)) (rParse S x) := by
  unfold f_X7_parse rParse
  rw [m_isSlot, c_bnd, c_chkO h.1.ob]
  refine mx_go1 h (fun e N1 h1 h3 f1 => ?_)
  obtain ⟨e1, _, e2⟩ := ix_of e (by omega) (by omega)
  generalize ix x = q at *
  subst e1
  have hm := h.1
  have h60 := hI.2.1
  have h128 := hI.2.2
  generalize hn : S.2.1 = n at *
  generalize htt : S.2.2 = t at *
  rw [L0, c_pfI hm.ob, c_pfI hm.ob, setF_at, setF_setF, c_pfZ hm.ob (by omega), setF_at, setF_setF, c_chkO hm.ob]
  generalize hG : up1 (up1 (up1 (N1 p) 19 0) 20 0) 22 0 = G
  have g19 : G 19 = 0 := by rw [← hG, up1_ne (by omega), up1_ne (by omega), up1_at]
  have g20 : G 20 = 0 := by rw [← hG, up1_ne (by omega), up1_at]
  have g22 : G 22 = 0 := by rw [← hG, up1_at]
  have ef : mEf N1 (setF N1 p G) p := ⟨fun z _ => by rw [setF_ne (by omega)], setF_ne (by omega), setF_ne (by omega), fun k _ hk => by rw [setF_at, ← hG, up1_ne (by omega), up1_ne (by omega), up1_ne (by omega)], frA.set (by omega) (by omega)⟩
  obtain ⟨N3, u0, u1, u2, u3, u4, u5, u6⟩ := m_begins (J := J) (R := R) (N := setF N1 p G) hm (d := 0) (by omega) (by rw [setF_at]; exact g20)
  rw [u0, c_bnd]
  have ef3 : mEf N1 N3 p := ef.trans u1
  have mR0 : mR N3 p t 0 := by
    refine ⟨by rw [u2 19 (by omega), setF_at, g19], by rw [u2 20 (by omega), setF_at, g20]; rfl, by rw [u3]; rfl, by rw [u2 22 (by omega), setF_at, g22]; rfl, fun _ => ⟨fun k hk => ?_, fun u => absurd u (show (0 : Nat) ≠ 1 by omega)⟩⟩
    have hk0 : k = 0 := Nat.le_zero.mp hk
    subst hk0
    rw [u5, u6, up1_at, up1_at]
    exact ⟨⟨by omega, rfl, fun u => absurd rfl u⟩, by omega, rfl, fun u => absurd rfl u⟩
  have tx : ∀ N4, mEf N1 N4 p → N4 p 18 = n ∧ ∀ k, k < n → N4 (p + 14) k = t k := fun N4 a => ⟨by rw [a.2.2.2.1 18 (by omega) (by omega), h1.2.2.1]; exact hn, fun k hk => by rw [a.2.2.1, h1.2.2.2 k (by omega), htt]⟩
  have hl : ∃ b, loopM (fun q' => f_X7_parse_B34 Γ p (nI q) q') FUEL (cS N3 R J) = some b ∧ ∃ N', mEf N1 N' p ∧ ((fnz (bdT t) n < n ∧ b = .inr (-10 - nI (fnz (bdT t) n), cS N' R J)) ∨ (fnz (bdT t) n = n ∧ b = .inl (cS N' R J) ∧ mR N' p t n)) := by
    refine loopM_e (fun k s => ∃ i N', s = cS N' R J ∧ k ≤ i ∧ i ≤ n ∧ mEf N1 N' p ∧ (∀ k, k < i → bdT t k = 0) ∧ mR N' p t i ∧ ((syT t i).2.1 = 0 ∨ i = n ∨ ¬ isDg (t i))) (fun b : zSt ⊕ (Int32 × zSt) => ∃ N', mEf N1 N' p ∧ ((fnz (bdT t) n < n ∧ b = .inr (-10 - nI (fnz (bdT t) n), cS N' R J)) ∨ (fnz (bdT t) n = n ∧ b = .inl (cS N' R J) ∧ mR N' p t n))) n ?_ n 0 FUEL _ (by omega) ⟨0, N3, rfl, by omega, by omega, ef3, fun k u => absurd u (Nat.not_lt_zero k), mR0, Or.inl rfl⟩ (by unfold FUEL; omega)
    intro k s hk ⟨i, N4, e0, hki, hin, r1, r2, r3, r4⟩
    subst e0
    obtain ⟨x18, xt⟩ := tx N4 r1
    show (k < n ∧ ∃ s', f_X7_parse_B34 _ _ _ _ = some (.inl s') ∧ _) ∨ ∃ b, f_X7_parse_B34 _ _ _ _ = some (.inr b) ∧ _
    unfold f_X7_parse_B34
    rw [c_gfI hm.ob, r3.1, c_gfI hm.ob, x18]
    by_cases e5 : i = n
    · rw [ile_t (by omega) (by omega)]
      refine Or.inr ⟨_, rfl, N4, r1, Or.inr ⟨?_, rfl, by rw [← e5]; exact r3⟩⟩
      rw [← e5]
      exact fnz_of (Nat.le_refl i) r2 (fun u => absurd u (Nat.lt_irrefl i))
    · rw [ile_f (by omega) (by omega), c_chkO hm.ob]
      obtain ⟨N5, r, t0, t1, t2⟩ := m_next (J := J) hm x18 h60 xt h128 (show i < n by omega) r2 r3 (r4.elim Or.inl (fun u => u.elim (fun w => absurd w e5) Or.inr))
      rw [t0, c_bnd]
      rcases t2 with ⟨rfl, j, j1, j2, j3, j4⟩ | ⟨rfl, i', i1, i2, i3, i4, i5⟩
      · rw [if_pos m0e, c_gfI hm.ob, j1]
        have hf : fnz (bdT t) n = j := fnz_of (by omega) j4 (fun _ => j3)
        exact Or.inr ⟨_, rfl, N5, r1.trans t1, Or.inl ⟨by omega, by rw [hf]⟩⟩
      · rw [if_neg m1n0]
        exact Or.inl ⟨by omega, _, rfl, i', N5, rfl, by omega, i2, r1.trans t1, i3, i4, i5⟩
  obtain ⟨b, l1, N4, l2, l3⟩ := hl
  rw [l1]
  have h4 := h1.ef hI l2
  have f4 : frA N N4 p (p + 17) := f1.trans l2.2.2.2.2
  have z4 : N4 p 3 = 0 := by rw [l2.2.2.2.1 3 (by omega) (by omega)]; exact h3
  have fin : ∀ v, MX Γ N R J p (some (v, cS N4 R J)) (0, v, S) := fun v => ⟨N4, J, v, rfl, h4, f4, z4, fun _ => rfl, fun _ _ => rfl⟩
  obtain ⟨x18, xt⟩ := tx N4 l2
  rcases l3 with ⟨l4, rfl⟩ | ⟨l4, rfl, l5⟩
  · rw [if_pos l4]
    exact fin _
  · have hall := fnz_all (f := bdT t) (n := n) l4
    obtain ⟨⟨s1, s2, s3⟩, _, _, hvI, _⟩ := sInv_all n hall
    obtain ⟨r1, r2, r3, r4, r5⟩ := l5
    rw [if_neg (by omega), c_lbrl, c_lb0]
    unfold f_X7_parse_L74
    rw [c_gfI hm.ob, r3]
    by_cases e3 : (syT t n).2.2 = 1
    · rw [e3, ieq_f (by omega) (by omega) (by omega), c_gfI hm.ob, r2]
      by_cases e4 : (syT t n).1 = 0
      · rw [ile_t (by omega) (by omega), if_pos (show (1 = 1 ∧ (syT t n).1 = 0) from ⟨rfl, e4⟩), c_chkO hm.ob]
        obtain ⟨N5, t0, t1, t2, t3, t4, t5, t6⟩ := m_cl2 (J := J) hm (show 0 ≤ 8 by omega) (by rw [r2, e4]) r4 (vl_fl n) hvI (fun u => ⟨by have := (r5 u).1; rw [e4] at this; exact this, (r5 u).2 e3⟩)
        have hfn : cl2' 0 (vlT t n) = fnV t n := rfl
        rw [hfn] at t5 t6
        have h5 := h4.ef hI t1
        have f5 : frA N N5 p (p + 17) := f4.trans t1.2.2.2.2
        have z5 : N5 p 3 = 0 := by rw [t1.2.2.2.1 3 (by omega) (by omega)]; exact z4
        rw [t0, c_bnd, c_gfI hm.ob, t5]
        by_cases e6 : (fnV t n).1 = 0
        · have hS : (fnV t n).2.2.2.2.1 0 ≠ 0 := (cl2'_hS (d := 0) (v := vlT t n) e6).elim id (fun w => by
            have : fnV t n = vlT t n := if_neg (by omega)
            rw [this] at e6
            omega)
          have hA := ((t6 e6) 0 (Nat.le_refl _)).2.2.2 hS
          have hA12 := ((fnV_I hall).2 0).2
          rw [if_pos e6, e6, ieq_t rfl]
          obtain ⟨N6, w0, k1, f2, ep, ei⟩ := h5.save (J := J) hI (q := q) (by omega)
          obtain ⟨N7, v0, v1, v2⟩ := m_copies (J := J) hm (x := 8 + 2 * 0) (q := q) (by omega) (by omega) (by omega) (hA.eq ep) hA12.2
          rw [c_chkO hm.ob, w0, c_bnd, c_chkO hm.ob, L8, show f_X7_copies Γ p (nI 8) (nI q) (cS N6 R J) = _ from v0, c_bnd, c_chkO hm.ob, m_many hm (by omega), v2.1, c_bnd]
          exact mx_wr hI (by omega) z5 f5 k1 f2 ei v1 v2 rfl (fun _ _ => rfl)
        · have : (fnV t n).1 ≤ 1 := cl2'_fl (vl_fl n)
          rw [if_neg e6, ieq_f e6 (by omega) (by omega)]
          exact ⟨N5, J, _, rfl, h5, f5, z5, fun _ => rfl, fun _ _ => rfl⟩
      · rw [ile_f (by omega) (by omega), if_neg (show ¬ (1 = 1 ∧ (syT t n).1 = 0) from fun u => e4 u.2), c_gfI hm.ob, x18]
        exact fin _
    · rw [show (syT t n).2.2 = 0 by omega, ieq_t rfl, if_neg (show ¬ (0 = 1 ∧ (syT t n).1 = 0) from fun u => by omega), c_gfI hm.ob, x18]
      exact fin _
end MPX
