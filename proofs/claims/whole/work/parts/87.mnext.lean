/-! ===== the model's expression: what stands at a place is read ===== -/
def mR (N : Mem) (p : Nat) (t : Nat → Nat) (i : Nat) : Prop := N p 19 = i ∧ N p 20 = (syT t i).1 ∧ N p 21 = (syT t i).2.2 ∧ N p 22 = (vlT t i).1 ∧ ((vlT t i).1 = 0 → mV N p (syT t i).1 (vlT t i) ∧ ((syT t i).2.2 = 1 → mAu N p 4 (vlT t i).2.1))
def nxt (N N' : Mem) (p : Nat) (t : Nat → Nat) (n i : Nat) (r : Int32) : Prop := mEf N N' p ∧ ((r = nI 0 ∧ ∃ j, N' p 19 = j ∧ j < n ∧ bdT t j ≠ 0 ∧ ∀ k, k < j → bdT t k = 0) ∨ (r = nI 1 ∧ ∃ i', i < i' ∧ i' ≤ n ∧ (∀ k, k < i' → bdT t k = 0) ∧ mR N' p t i' ∧ ((syT t i').2.1 = 0 ∨ i' = n ∨ ¬ isDg (t i'))))
theorem syN_dg {s : syS} {c : Nat} (h : isDg c) : syN s c = (s.1, s.2.1 + 1, 1) := by
  have h1 := h.1
  have h2 := h.2
  unfold syN
  rw [if_neg (by omega), if_neg (by omega), if_pos h, if_neg (by omega)]
theorem vsE'_ne {s : syS} {v : vs} (h : v.1 ≠ 0) : vsE' s v = v := by
  unfold vsE' clF'
  by_cases e : s.2.2 = 1
  · rw [if_pos e, if_neg h]
  · rw [if_neg e]
theorem vsE'_eq {s : syS} {v : vs} (h : v.1 = 0) : vsE' s v = vsE s v := by
  unfold vsE' vsE clF'
  by_cases e : s.2.2 = 1
  · rw [if_pos e, if_pos e, if_pos h]
  · rw [if_neg e, if_neg e]
theorem vsE'_fl {s : syS} {v : vs} (h : v.1 ≤ 1) : (vsE' s v).1 ≤ 1 := by
  unfold vsE'
  by_cases e : s.2.2 = 1
  · rw [if_pos e]; exact clF'_fl h
  · rw [if_neg e]; exact h
theorem num_run {t : Nat → Nat} {i : Nat} (hg : (syT t i).2.1 = 0) : ∀ m, 1 ≤ m → (∀ k, k < m → isDg (t (i + k))) → syT t (i + m) = ((syT t i).1, m, 1) ∧ vlT t (i + m) = (if (vsE' (syT t i) (vlT t i)).1 = 0 then (0, numA (dec t i m), (vsE' (syT t i) (vlT t i)).2.2) else vsE' (syT t i) (vlT t i)) := by
  intro m
  induction m with
  | zero => intro u; exact absurd u (by omega)
  | succ m ih =>
    intro _ hd
    have hdm := hd m (by omega)
    have h1 := hdm.1
    have h2 := hdm.2
    have c42 : ¬ t (i + m) = 42 := by omega
    have c43 : ¬ t (i + m) = 43 := by omega
    have c41 : ¬ t (i + m) = 41 := by omega
    have c40 : ¬ t (i + m) = 40 := by omega
    show syN (syT t (i + m)) (t (i + m)) = _ ∧ vsN (vlT t (i + m)) (syT t (i + m)) (t (i + m)) = _
    rw [syN_dg hdm]
    by_cases hm : m = 0
    · subst hm
      show ((syT t i).1, (syT t i).2.1 + 1, 1) = _ ∧ vsN (vlT t i) (syT t i) (t (i + 0)) = _
      rw [hg]
      refine ⟨rfl, ?_⟩
      have hdec : dec t i (0 + 1) = t (i + 0) - 48 := by
        show 10 * 0 + t (i + 0) - 48 = _
        rw [Nat.mul_zero, Nat.zero_add]
      rw [hdec]
      by_cases e0 : (vlT t i).1 = 0
      · rw [vsE'_eq e0]
        unfold vsN
        rw [if_pos e0, if_neg c42, if_neg c43, if_neg c41, if_neg (fun u => by have := u.2; omega)]
        by_cases e1 : (vsE (syT t i) (vlT t i)).1 = 0
        · rw [if_pos e1, if_pos e1, if_neg c40]
          unfold vsB
          rw [if_pos hdm]
        · rw [if_neg e1, if_neg e1]
      · rw [vsE'_ne e0, if_neg e0]
        exact if_neg e0
    · obtain ⟨i1, i2⟩ := ih (by omega) (fun k hk => hd k (by omega))
      rw [i1, i2]
      refine ⟨rfl, ?_⟩
      by_cases e1 : (vsE' (syT t i) (vlT t i)).1 = 0
      · rw [if_pos e1, if_pos e1]
        unfold vsN
        rw [if_pos rfl, if_neg c42, if_neg c43, if_neg c41, if_pos ⟨hdm, by show 0 < m; omega⟩]
        rfl
      · rw [if_neg e1, if_neg e1]
        exact if_neg e1
theorem num_bad {t : Nat → Nat} {i m : Nat} (hg : (syT t i).2.1 = 0) (hd : ∀ k, k < m → isDg (t (i + k))) : ∀ k, k < m → k < 4 → bdT t (i + k) = 0 := by
  intro k hk h4
  unfold bdT
  rw [bad_dg (hd k hk)]
  by_cases e : k = 0
  · subst e
    show (if 4 ≤ (syT t i).2.1 then 1 else 0) = 0
    rw [hg, if_neg (by omega)]
  · rw [(num_run hg k (by omega) (fun k' hk' => hd k' (by omega))).1]
    show (if 4 ≤ k then 1 else 0) = 0
    rw [if_neg (by omega)]
section MN
variable {Γ : zSh} {N N' N1 R : Mem} {J : Nat → Nat → Int64} {p c n i : Nat} {v : vs} {t : Nat → Nat}
theorem m_E (h : mS Γ R p) (hall : ∀ k, k < i → bdT t k = 0) (hR : mR N p t i) (hfl : (vlT t i).1 ≤ 1) {c : Int32} : ∃ N1, f_X7_readsFactor_L17 Γ p c (cS N R J) = f_X7_readsFactor_L28 Γ p c (cS N1 R J) ∧ mEf N N1 p ∧ N1 p 19 = i ∧ N1 p 20 = (syT t i).1 ∧ N1 p 22 = (vsE' (syT t i) (vlT t i)).1 ∧ ((vsE' (syT t i) (vlT t i)).1 = 0 → mV N1 p (syT t i).1 (vsE' (syT t i) (vlT t i))) := by
  obtain ⟨r1, r2, r3, r4, r5⟩ := hR
  obtain ⟨⟨s1, s2, s3⟩, _, _, hI, _⟩ := sInv_all i hall
  unfold f_X7_readsFactor_L17 vsE'
  rw [c_gfI h.ob, r3]
  by_cases e : (syT t i).2.2 = 1
  · rw [if_pos e, e, if_neg m1n0, c_chkO h.ob]
    obtain ⟨N1, t0, t1, t2, t3, t4, t5, t6⟩ := m_clF (J := J) h s1 r2 r4 hfl hI (fun u => ⟨(r5 u).1, (r5 u).2 e⟩)
    rw [t0, c_bnd]
    exact ⟨N1, rfl, t1, by rw [t2]; exact r1, t3, t5, t6⟩
  · rw [if_neg e, show (syT t i).2.2 = 0 by omega, if_pos m0e]
    exact ⟨N, rfl, mEf.refl, r1, r2, r4, fun u => (r5 u).1⟩
theorem vl_fl {t : Nat → Nat} : ∀ i, (vlT t i).1 ≤ 1 := by
  intro i
  induction i with
  | zero => exact Nat.zero_le _
  | succ i ih =>
    show (vsN (vlT t i) (syT t i) (t i)).1 ≤ 1
    unfold vsN
    have h2 : ∀ d v, (cl2 d v).1 ≤ 1 := by
      intro d v
      unfold cl2
      by_cases e : (clF d v).1 = 0
      · rw [if_pos e]; exact fl_clP
      · rw [if_neg e]; exact fl_clF
    by_cases e0 : (vlT t i).1 = 0
    · rw [if_pos e0]
      by_cases c42 : t i = 42
      · rw [if_pos c42]; exact fl_vsF
      · rw [if_neg c42]
        by_cases c43 : t i = 43
        · rw [if_pos c43]; exact h2 _ _
        · rw [if_neg c43]
          by_cases c41 : t i = 41
          · rw [if_pos c41]
            unfold vsC
            by_cases e1 : (cl2 (syT t i).1 (vlT t i)).1 = 0
            · rw [if_pos e1]; exact Nat.zero_le _
            · rw [if_neg e1]; exact h2 _ _
          · rw [if_neg c41]
            by_cases e1 : isDg (t i) ∧ 0 < (syT t i).2.1
            · rw [if_pos e1]; exact Nat.zero_le _
            · rw [if_neg e1]
              by_cases e2 : (vsE (syT t i) (vlT t i)).1 = 0
              · rw [if_pos e2]
                by_cases c40 : t i = 40
                · rw [if_pos c40]; exact Nat.zero_le _
                · rw [if_neg c40]; exact Nat.zero_le _
              · rw [if_neg e2, ← vsE'_eq e0]
                exact vsE'_fl ih
    · rw [if_neg e0]; exact ih
/-- a step that is no continued number, by what closed before -/
theorem vsN_else {v : vs} {s : syS} {c : Nat} (h42 : c ≠ 42) (h43 : c ≠ 43) (h41 : c ≠ 41) (hd : ¬ (isDg c ∧ 0 < s.2.1)) : vsN v s c = if (vsE' s v).1 = 0 then (if c = 40 then vsO s.1 (vsE' s v) else vsB (vsE' s v) c) else vsE' s v := by
  by_cases e0 : v.1 = 0
  · rw [vsE'_eq e0]
    unfold vsN
    rw [if_pos e0, if_neg h42, if_neg h43, if_neg h41, if_neg hd]
  · rw [vsE'_ne e0, if_neg e0]
    exact if_neg e0
theorem mV_pool {d : Nat} (hd : d ≤ 8) (hI : vI v) (hV : mV N1 p d v) (h15 : N' (p + 15) = N1 (p + 15)) (h16 : N' (p + 16) = N1 (p + 16)) (hp : ∀ z, z < 313 * 4 ∨ 313 * 4 + 313 ≤ z → N' (p + 1) z = N1 (p + 1) z) : mV N' p d v := by
  have o1 : ∀ {q A}, mAu N1 p q A → A.1 ≤ 12 → 8 ≤ q → mAu N' p q A := by
    intro q A hA h12 hq
    refine ⟨by rw [hp _ (by omega)]; exact hA.1, fun i hi => ⟨?_, ?_, fun j l hj hl => ?_⟩⟩
    · rw [hp _ (by omega)]; exact (hA.2 i hi).1
    · rw [hp _ (by omega)]; exact (hA.2 i hi).2.1
    · rw [hp _ (by omega)]; exact (hA.2 i hi).2.2 j l hj hl
  intro k hk
  obtain ⟨⟨c1, c2, c3⟩, c4, c5, c6⟩ := hV k hk
  rw [h15, h16]
  exact ⟨⟨c1, c2, fun u => o1 (c3 u) (hI.2 k).1.2 (by omega)⟩, c4, c5, fun u => o1 (c6 u) (hI.2 k).2.2 (by omega)⟩
theorem m_fac (h : mS Γ R p) (h18 : N p 18 = n) (hn : n ≤ 60) (ht : ∀ k, k < n → N (p + 14) k = t k) (h128 : ∀ k, k < n → t k < 128) (hi : i < n) (hall : ∀ k, k < i → bdT t k = 0) (hR : mR N p t i) (hc : t i = 40 ∨ t i = 97 ∨ t i = 98 ∨ isDg (t i)) (hg : isDg (t i) → (syT t i).2.1 = 0) : ∃ N' r, f_X7_readsFactor Γ p (nI (t i)) (cS N R J) = some (r, cS N' R J) ∧ nxt N N' p t n i r := by
  obtain ⟨⟨s1, s2, s3⟩, _, _, hI, _⟩ := sInv_all i hall
  have hfl := vl_fl (t := t) i
  obtain ⟨N1, t0, t1, t2, t3, t4, t5⟩ := m_E (J := J) h hall hR hfl (c := nI (t i))
  have hci := h128 i hi
  have hsI : vI (vsE' (syT t i) (vlT t i)) := by
    unfold vsE'
    by_cases e : (syT t i).2.2 = 1
    · rw [if_pos e]; exact clF'_I hI
    · rw [if_neg e]; exact hI
  have hwf := vsE'_fl (s := syT t i) hfl
  have g18 : N1 p 18 = n := by rw [t1.2.2.2.1 18 (by omega) (by omega)]; exact h18
  have gt : ∀ k, k < n → N1 (p + 14) k = t k := fun k hk => by rw [t1.2.2.1]; exact ht k hk
  have hs : syT t (i + 1) = syN (syT t i) (t i) := rfl
  have hv : vlT t (i + 1) = vsN (vlT t i) (syT t i) (t i) := rfl
  unfold f_X7_readsFactor
  rw [L40]
  by_cases c40 : t i = 40
  · rw [ieq_t c40, c_gfI h.ob, hR.2.1, L8]
    by_cases e8 : (syT t i).1 = 8
    · rw [ieq_t e8]
      refine ⟨N, _, rfl, mEf.refl, Or.inl ⟨rfl, i, hR.1, hi, ?_, hall⟩⟩
      unfold bdT
      rw [c40, bad_40, if_neg (by omega)]
      omega
    · rw [ieq_f e8 (by omega) (by omega), t0]
      have hb : bdT t i = 0 := by unfold bdT; rw [c40, bad_40, if_pos (by omega)]
      unfold f_X7_readsFactor_L28
      have hm : N1 p 20 = (syT t i).1 := t3
      rw [L40, ieq_t c40, c_gfI h.ob, t3, L1, nI_add, c_pfI h.ob, c_gfI h.ob, setF_at, up1_ne (by omega), t2, nI_add, c_pfI h.ob, setF_at, setF_setF, c_chkO h.ob]
      obtain ⟨N2, u0, u1, u2, u3, u4, u5, u6⟩ := m_begins (J := J) (R := R) (N := setF N1 p (up1 (up1 (N1 p) 20 ((syT t i).1 + 1)) 19 (i + 1))) h (d := (syT t i).1 + 1) (by omega) (by rw [setF_at, up1_ne (by omega), up1_at])
      rw [u0, c_bnd]
      have ef : mEf N1 (setF N1 p (up1 (up1 (N1 p) 20 ((syT t i).1 + 1)) 19 (i + 1))) p := ⟨fun z _ => by rw [setF_ne (by omega)], setF_ne (by omega), setF_ne (by omega), fun k _ hk => by rw [setF_at, up1_ne (by omega), up1_ne (by omega)], frA.set (by omega) (by omega)⟩
      have y1 : (syT t (i + 1)).1 = (syT t i).1 + 1 := by rw [hs]; exact if_pos c40
      have y2 : (syT t (i + 1)).2.1 = 0 := by rw [hs]; exact if_neg (fun u : isDg (t i) => by have := u.1; omega)
      have y3 : (syT t (i + 1)).2.2 = 0 := by rw [hs]; exact if_pos (Or.inl c40)
      have hv2 := hv.trans (vsN_else (show t i ≠ 42 by omega) (show t i ≠ 43 by omega) (show t i ≠ 41 by omega) (fun u => by have := u.1.1; omega))
      refine ⟨N2, _, rfl, (t1.trans ef).trans u1, Or.inr ⟨rfl, i + 1, by omega, by omega, fun k hk => ?_, ⟨?_, ?_, ?_, ?_, fun hz => ⟨?_, fun u => absurd u (by rw [y3]; omega)⟩⟩, Or.inl y2⟩⟩
      · by_cases e : k = i
        · rw [e]; exact hb
        · exact hall k (by omega)
      · rw [u2 19 (by omega), setF_at, up1_at]
      · rw [u2 20 (by omega), setF_at, up1_ne (by omega), up1_at, y1]
      · rw [u3, y3]
      · rw [u2 22 (by omega), setF_at, up1_ne (by omega), up1_ne (by omega), t4, hv2]
        by_cases e1 : (vsE' (syT t i) (vlT t i)).1 = 0
        · rw [if_pos e1, if_pos c40, e1]; rfl
        · rw [if_neg e1]
      · by_cases e1 : (vsE' (syT t i) (vlT t i)).1 = 0
        · rw [if_pos e1, if_pos c40] at hv2
          rw [hv2, y1]
          have hV := t5 e1
          have ep : ∀ {q A}, mAu N1 p q A → mAu N2 p q A := fun hA => hA.eq (by rw [u4, setF_ne (by omega)])
          intro k hk
          rw [u5, u6, setF_ne (show p + 15 ≠ p by omega), setF_ne (show p + 16 ≠ p by omega)]
          show (_ ∧ _ = up1 _ ((syT t i).1 + 1) 0 k ∧ (up1 _ ((syT t i).1 + 1) 0 k ≠ 0 → _)) ∧ _ ∧ _ = up1 _ ((syT t i).1 + 1) 0 k ∧ (up1 _ ((syT t i).1 + 1) 0 k ≠ 0 → _)
          by_cases e2 : k = (syT t i).1 + 1
          · rw [e2, up1_at, up1_at, up1_at, up1_at]
            exact ⟨⟨by omega, rfl, fun u => absurd rfl u⟩, by omega, rfl, fun u => absurd rfl u⟩
          · obtain ⟨⟨c1, c2, c3⟩, c4, c5, c6⟩ := hV k (by omega)
            rw [up1_ne e2, up1_ne e2, up1_ne e2, up1_ne e2]
            exact ⟨⟨c1, c2, fun u => ep (c3 u)⟩, c4, c5, fun u => ep (c6 u)⟩
        · rw [hv2, if_neg e1] at hz
          exact absurd hz e1
  · rw [ieq_f c40 (by omega) (by omega), t0]
    unfold f_X7_readsFactor_L28
    rw [L40, ieq_f c40 (by omega) (by omega), L97, L98]
    -- what a factor that has been read leaves
    have let1 : ∀ c, c < 2 → t i = 97 + c → ∃ N' r, f_X7_readsFactor_L74 Γ p (nI (t i)) 1 (cS N1 R J) = some (r, cS N' R J) ∧ nxt N N' p t n i r := by
      intro c hc2 hct
      have hnd : ¬ isDg (t i) := fun u => by have := u.2; omega
      have hb : bdT t i = 0 := by unfold bdT; rw [bad_ab (by omega)]
      obtain ⟨N2, u0, u1, u2, u3, u4, u5, u6⟩ := m_letter (J := J) h hc2 t2 (by omega)
      unfold f_X7_readsFactor_L74 f_X7_readsFactor_L90
      rw [c_chkO h.ob, L97, pk_sub (by omega), show t i - 97 = c by omega, u0, c_bnd, L1, c_pfZ h.ob (by omega)]
      have y1 : (syT t (i + 1)).1 = (syT t i).1 := by rw [hs]; show (if t i = 40 then _ else if t i = 41 then _ else _) = _; rw [if_neg c40, if_neg (by omega)]
      have y2 : (syT t (i + 1)).2.1 = 0 := by rw [hs]; exact if_neg hnd
      have y3 : (syT t (i + 1)).2.2 = 1 := by rw [hs]; exact if_neg (by omega)
      have hv2 := hv.trans (vsN_else (show t i ≠ 42 by omega) (show t i ≠ 43 by omega) (show t i ≠ 41 by omega) (fun u => hnd u.1))
      refine ⟨_, _, rfl, (t1.trans u1).trans (mEf.fld (by omega) (by omega)), Or.inr ⟨rfl, i + 1, by omega, by omega, fun k hk => ?_, ⟨?_, ?_, ?_, ?_, fun hz => ?_⟩, Or.inl y2⟩⟩
      · by_cases e : k = i
        · rw [e]; exact hb
        · exact hall k (by omega)
      · rw [setF_at, up1_ne (by omega)]; exact u5
      · rw [setF_at, up1_ne (by omega), u4 20 (by omega), y1]; exact t3
      · rw [setF_at, up1_at, y3]
      · rw [setF_at, up1_ne (by omega), u4 22 (by omega), t4, hv2]
        by_cases e1 : (vsE' (syT t i) (vlT t i)).1 = 0
        · rw [if_pos e1, if_neg c40, e1]; rfl
        · rw [if_neg e1]
      · by_cases e1 : (vsE' (syT t i) (vlT t i)).1 = 0
        · rw [if_pos e1, if_neg c40] at hv2
          rw [hv2, y1]
          have hB : (vsB (vsE' (syT t i) (vlT t i)) (t i)).2.1 = letA c := by
            show (if isDg (t i) then _ else _) = _
            rw [if_neg hnd]
            rcases (by omega : c = 0 ∨ c = 1) with rfl | rfl
            · rw [if_neg (by omega)]
            · rw [if_pos (by omega)]
          refine ⟨mV_pool (v := vsE' (syT t i) (vlT t i)) s1 hsI (t5 e1) (by rw [setF_ne (by omega), u3 _ (by omega) (by omega)]) (by rw [setF_ne (by omega), u3 _ (by omega) (by omega)]) (fun z a => by rw [setF_ne (by omega)]; exact u2 z a), fun _ => ?_⟩
          rw [hB]
          exact u6.eq (setF_ne (by omega))
        · rw [hv2, if_neg e1] at hz
          exact absurd hz e1
    by_cases c97 : t i = 97
    · rw [ieq_t c97]
      exact let1 0 (by omega) (by omega)
    · rw [ieq_f c97 (by omega) (by omega)]
      by_cases c98 : t i = 98
      · rw [ieq_t c98]
        exact let1 1 (by omega) (by omega)
      · rw [ieq_f c98 (by omega) (by omega), c_chkO h.ob]
        have hd : isDg (t i) := by
          rcases hc with u | u | u | u
          · exact absurd u c40
          · exact absurd u c97
          · exact absurd u c98
          · exact u
        have hg0 := hg hd
        obtain ⟨m, r, m1, m2, m3, m4, N2, u0, u1, u2, u3, u4, u5, u6⟩ := m_number (J := J) h g18 hn t2 hi gt h128
        have hm1 : 1 ≤ m := by
          rcases Nat.eq_zero_or_pos m with u | u
          · subst u
            rcases m3 with w | w
            · omega
            · exact absurd ⟨hi, hd⟩ w
          · exact u
        have hmd : ∀ k, k < m → isDg (t (i + k)) := fun k hk => (m2 k hk).2
        have hin : i + m ≤ n := by
          have := (m2 (m - 1) (by omega)).1
          omega
        obtain ⟨q1, q2⟩ := num_run hg0 m hm1 hmd
        have hbm : ∀ k, k < i + m → bdT t k = 0 := fun k hk => by
          by_cases e : k < i
          · exact hall k e
          · have := num_bad hg0 hmd (k - i) (by omega) (by omega)
            rw [show i + (k - i) = k by omega] at this
            exact this
        unfold f_X7_readsFactor_L90
        rw [u0, c_bnd, L1, c_pfZ h.ob (by omega), m4]
        by_cases e1 : i + m < n ∧ isDg (t (i + m))
        · have hm4 : m = 4 := m3.elim id (fun u => absurd e1 u)
          rw [b01_t e1]
          refine ⟨_, _, rfl, (t1.trans u1).trans (mEf.fld (by omega) (by omega)), Or.inl ⟨rfl, i + m, ?_, e1.1, ?_, hbm⟩⟩
          · rw [setF_at, up1_ne (by omega)]; exact u5
          · unfold bdT
            rw [q1, bad_dg e1.2]
            show (if 4 ≤ m then 1 else 0) ≠ 0
            rw [if_pos (by omega)]
            omega
        · rw [b01_f e1]
          refine ⟨_, _, rfl, (t1.trans u1).trans (mEf.fld (by omega) (by omega)), Or.inr ⟨rfl, i + m, by omega, hin, hbm, ⟨?_, ?_, ?_, ?_, fun hz => ?_⟩, ?_⟩⟩
          · rw [setF_at, up1_ne (by omega)]; exact u5
          · rw [setF_at, up1_ne (by omega), u4 20 (by omega), q1]; exact t3
          · rw [setF_at, up1_at, q1]
          · rw [setF_at, up1_ne (by omega), u4 22 (by omega), t4, q2]
            by_cases e2 : (vsE' (syT t i) (vlT t i)).1 = 0
            · rw [if_pos e2, e2]
            · rw [if_neg e2]
          · by_cases e2 : (vsE' (syT t i) (vlT t i)).1 = 0
            · rw [if_pos e2] at q2
              rw [q1, q2]
              refine ⟨mV_pool (v := vsE' (syT t i) (vlT t i)) s1 hsI (t5 e2) (by rw [setF_ne (by omega), u3 _ (by omega) (by omega)]) (by rw [setF_ne (by omega), u3 _ (by omega) (by omega)]) (fun z a => by rw [setF_ne (by omega)]; exact u2 z a), fun _ => u6.eq (setF_ne (by omega))⟩
            · rw [q2, if_neg e2] at hz
              exact absurd hz e2
          · by_cases e3 : i + m = n
            · exact Or.inr (Or.inl e3)
            · exact Or.inr (Or.inr (fun u => e1 ⟨by omega, u⟩))
end MN
