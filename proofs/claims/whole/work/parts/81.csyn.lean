/-! ===== the class's expression: the search for a fault ===== -/
theorem bad_dg {s : syS} {c : Nat} (h : isDg c) : badN s c = if 4 ≤ s.2.1 then 1 else 0 := if_pos h
theorem bad_40 {s : syS} : badN s 40 = if s.1 < 8 then 0 else 1 := by
  unfold badN
  rw [if_neg (by decide), if_pos rfl]
theorem bad_41 {s : syS} : badN s 41 = if s.2.2 = 1 ∧ 0 < s.1 then 0 else 1 := by
  unfold badN
  rw [if_neg (by decide), if_neg (by decide), if_pos rfl]
theorem bad_op {s : syS} {c : Nat} (h : c = 42 ∨ c = 43) : badN s c = if s.2.2 = 1 then 0 else 1 := by
  unfold badN
  rw [if_neg (fun u : isDg c => by have := u.1; omega), if_neg (by omega), if_neg (by omega), if_pos h]
theorem bad_ab {s : syS} {c : Nat} (h : c = 97 ∨ c = 98) : badN s c = 0 := by
  unfold badN
  rw [if_neg (fun u : isDg c => by have := u.2; omega), if_neg (by omega), if_neg (by omega), if_neg (by omega), if_pos h]
theorem bad_no {s : syS} {c : Nat} (h : ¬ isDg c) (h1 : c ≠ 40) (h2 : c ≠ 41) (h3 : c ≠ 42) (h4 : c ≠ 43) (h5 : c ≠ 97) (h6 : c ≠ 98) : badN s c = 1 := by
  unfold badN
  rw [if_neg h, if_neg h1, if_neg h2, if_neg (by omega), if_neg (by omega)]
theorem bad_le {s : syS} {c : Nat} : badN s c ≤ 1 := by
  unfold badN
  split <;> (try split) <;> (try split) <;> (try split) <;> (try split) <;> omega
theorem bad_g {d g st c : Nat} : badN (d, g, st) c = 0 ↔ ¬ (isDg c ∧ 4 ≤ g) ∧ badN (d, 0, st) c = 0 := by
  by_cases h : isDg c
  · rw [bad_dg h, bad_dg h]
    show (if 4 ≤ g then 1 else 0) = 0 ↔ ¬ (isDg c ∧ 4 ≤ g) ∧ (if 4 ≤ 0 then 1 else 0) = 0
    by_cases e : 4 ≤ g
    · rw [if_pos e]
      exact ⟨fun u => absurd u (by omega), fun u => absurd ⟨h, e⟩ u.1⟩
    · rw [if_neg e]
      exact ⟨fun _ => ⟨fun u => e u.2, rfl⟩, fun _ => rfl⟩
  · have : badN (d, g, st) c = badN (d, 0, st) c := by
      unfold badN
      rw [if_neg h, if_neg h]
    rw [this]
    exact ⟨fun u => ⟨fun v => h v.1, u⟩, fun u => u.2⟩
theorem nI_dec {d : Nat} (h : 1 ≤ d) : nI d + (-1) = nI (d - 1) := by
  rw [show nI d + (-1) = nI d - 1 from (Int32.sub_eq_add_neg ..).symm, show (1 : Int32) = nI 1 from rfl, pk_sub h]
section CSY
variable {Γ : zSh} {N R : Mem} {J : Nat → Nat → Int64} {e c d g st i : Nat} {σ : zSt}
theorem k_dig (hc : c < 128) : f_X2_isDigit Γ (nI c) σ = some (nI (b01 (isDg c)), σ) := by
  unfold f_X2_isDigit f_X2_isDigit_L16 f_X2_isDigit_L17
  rw [L48, L57]
  by_cases e1 : c < 48
  · rw [ilt_t e1 (by omega), b01_f (fun u : isDg c => by have := u.1; omega)]
    rfl
  · rw [ilt_f (by omega) (by omega)]
    by_cases e2 : 57 < c
    · rw [ilt_t e2 (by omega), b01_f (fun u : isDg c => by have := u.2; omega)]
      rfl
    · rw [ilt_f (by omega) (by omega), b01_t (show isDg c from ⟨by omega, by omega⟩)]
      rfl
theorem k_can (hc : c < 128) (hd : d ≤ 8) (hst : st ≤ 1) : f_X2_canStand Γ (nI c) (nI (1 - st)) (nI d) σ = some (nI (1 - badN (d, 0, st) c), σ) := by
  unfold f_X2_canStand f_X2_canStand_L73 f_X2_canStand_L86 f_X2_canStand_L87 f_X2_canStand_L97
  rw [L40, L41, L42, L43, L97, L98, L8, L0]
  by_cases c40 : c = 40
  · subst c40
    rw [ieq_t rfl, bad_40]
    show (if nI 8 ≤ nI d then _ else _) = some (nI (1 - if d < 8 then 0 else 1), σ)
    by_cases e8 : 8 ≤ d
    · rw [ile_t e8 (by omega), if_neg (by omega)]
      rfl
    · rw [ile_f (by omega) (by omega), if_pos (by omega)]
      rfl
  rw [ieq_f c40 (by omega) (by omega)]
  by_cases c41 : c = 41
  · subst c41
    rw [ieq_t rfl, bad_41]
    show _ = some (nI (1 - if st = 1 ∧ 0 < d then 0 else 1), σ)
    by_cases e1 : st = 1
    · rw [ieq_t (by omega)]
      by_cases e2 : 0 < d
      · rw [ile_f e2 (by omega), if_pos ⟨e1, e2⟩]
        rfl
      · rw [ile_t (by omega) (by omega), if_neg (fun u => e2 u.2)]
        rfl
    · rw [ieq_f (by omega) (by omega) (by omega), if_neg (fun u => e1 u.1)]
      rfl
  rw [ieq_f c41 (by omega) (by omega)]
  by_cases c42 : c = 42
  · rw [ieq_t c42, bad_op (Or.inl c42)]
    show _ = some (nI (1 - if st = 1 then 0 else 1), σ)
    by_cases e1 : st = 1
    · rw [ieq_t (by omega), if_pos e1]
      rfl
    · rw [ieq_f (by omega) (by omega) (by omega), if_neg e1]
      rfl
  rw [ieq_f c42 (by omega) (by omega)]
  by_cases c43 : c = 43
  · rw [ieq_t c43, bad_op (Or.inr c43)]
    show _ = some (nI (1 - if st = 1 then 0 else 1), σ)
    by_cases e1 : st = 1
    · rw [ieq_t (by omega), if_pos e1]
      rfl
    · rw [ieq_f (by omega) (by omega) (by omega), if_neg e1]
      rfl
  rw [ieq_f c43 (by omega) (by omega)]
  by_cases c97 : c = 97
  · rw [ieq_t c97, bad_ab (Or.inl c97)]
    rfl
  rw [ieq_f c97 (by omega) (by omega)]
  by_cases c98 : c = 98
  · rw [ieq_t c98, bad_ab (Or.inr c98)]
    rfl
  rw [ieq_f c98 (by omega) (by omega), k_dig hc, c_bnd, isB_b b01_lt, c_chk]
  by_cases h : isDg c
  · rw [b01_t h, bad_dg h]
    rfl
  · rw [b01_f h, bad_no h c40 c41 c42 c43 c97 c98]
theorem k_syn42 {g' : Nat} (hc : c < 128) (hd : d ≤ 8) (hst : st ≤ 1) (hg : g' ≤ 5) (hi : i ≤ 60) : f_X2_syntaxError_B9_L42 Γ e (nI d) (nI (1 - st)) (nI i) (nI c) (nI g') σ = if 4 < g' ∨ badN (d, 0, st) c ≠ 0 then some (.inr (.inr (nI i, σ))) else some (.inl (nI (if c = 40 then d + 1 else if c = 41 then d - 1 else d), nI g', nI (1 - if c = 40 ∨ c = 43 then 0 else 1), nI (i + 1), σ)) := by
  unfold f_X2_syntaxError_B9_L42 f_X2_syntaxError_B9_L58 f_X2_syntaxError_B9_L84 f_X2_syntaxError_B9_L98 f_X2_syntaxError_B9_L103
  rw [L4]
  by_cases e1 : 4 < g'
  · rw [ilt_t e1 (by omega), if_pos (Or.inl e1)]
  · have hle := bad_le (s := (d, 0, st)) (c := c)
    rw [ilt_f (by omega) (by omega), k_can hc hd hst, c_bnd]
    by_cases e2 : badN (d, 0, st) c = 0
    · rw [if_neg (show ¬ (4 < g' ∨ badN (d, 0, st) c ≠ 0) from fun u => u.elim e1 (fun v => v e2)), show 1 - badN (d, 0, st) c = 1 by omega, if_neg m1n0]
      rw [L40, L41, L43]
      by_cases c40 : c = 40
      · rw [ieq_t c40, ieq_t c40, if_pos c40, if_pos (Or.inl c40), L1, nI_add, nI_add]
      · rw [ieq_f c40 (by omega) (by omega), if_neg c40]
        by_cases c41 : c = 41
        · have hd1 : 1 ≤ d := by
            rw [c41, bad_41] at e2
            rcases Nat.lt_or_ge 0 d with u | u
            · exact u
            · rw [if_neg (fun v : st = 1 ∧ 0 < d => by omega)] at e2
              omega
          rw [ieq_t c41, ieq_f c40 (by omega) (by omega), ieq_f (show c ≠ 43 by omega) (by omega) (by omega), if_pos c41, if_neg (show ¬ (c = 40 ∨ c = 43) by omega), nI_dec hd1, L1, nI_add]
          rfl
        · rw [ieq_f c41 (by omega) (by omega), ieq_f c40 (by omega) (by omega), if_neg c41]
          by_cases c43 : c = 43
          · rw [ieq_t c43, if_pos (Or.inr c43), L1, nI_add]
          · rw [ieq_f c43 (by omega) (by omega), if_neg (show ¬ (c = 40 ∨ c = 43) by omega), L1, nI_add]
            rfl
    · rw [if_pos (Or.inr e2), show 1 - badN (d, 0, st) c = 0 by omega, if_pos m0e]
theorem k_syn (he : eS Γ R e) {n : Nat} {t : Nat → Nat} (h1 : N e 1 = n) (hn : n ≤ 60) (ht : ∀ i, i < n → N (e + 1) i = t i) (hb : ∀ i, i < n → t i < 128) : f_X2_syntaxError Γ e (cS N R J) = some (if fnz (bdT t) n < n then nI (fnz (bdT t) n) else if (syT t n).2.2 = 1 ∧ (syT t n).1 = 0 then -1 else nI n, cS N R J) := by
  obtain ⟨⟨y1, y2⟩, ⟨z1, _⟩, ⟨z2, _⟩, _⟩ := id he
  have hl : ∃ b, loopM (fun q => f_X2_syntaxError_B9 Γ e q.1 q.2.1 q.2.2.1 q.2.2.2.1 q.2.2.2.2) FUEL (nI 0, nI 0, nI 1, nI 0, cS N R J) = some b ∧ b = (if fnz (bdT t) n < n then .inr (nI (fnz (bdT t) n), cS N R J) else .inl (nI (syT t n).1, nI (1 - (syT t n).2.2), cS N R J)) := by
    refine loopM_e (fun i s => s = (nI (syT t i).1, nI (syT t i).2.1, nI (1 - (syT t i).2.2), nI i, cS N R J) ∧ ∀ j, j < i → bdT t j = 0) (fun b => b = _) n ?_ n 0 FUEL _ (by omega) ⟨rfl, fun j hj => absurd hj (Nat.not_lt_zero j)⟩ (by unfold FUEL; omega)
    intro i s hi ⟨e0, hg⟩
    subst e0
    show (i < n ∧ ∃ s', f_X2_syntaxError_B9 _ _ _ _ _ _ _ = some (.inl s') ∧ _) ∨ ∃ b, f_X2_syntaxError_B9 _ _ _ _ _ _ _ = some (.inr b) ∧ _
    unfold f_X2_syntaxError_B9
    rw [c_gfI y1, h1]
    by_cases e1 : i = n
    · subst e1
      rw [ile_t (by omega) (by omega)]
      refine Or.inr ⟨_, rfl, ?_⟩
      have : fnz (bdT t) i = i := fnz_of (Nat.le_refl i) hg (fun u => absurd u (Nat.lt_irrefl i))
      rw [this, if_neg (Nat.lt_irrefl i)]
    · have hin : i < n := by omega
      obtain ⟨⟨s1, s2, s3⟩, s4, s5, _⟩ := sInv_all i hg
      have hc := hb i hin
      have hs : syT t (i + 1) = syN (syT t i) (t i) := rfl
      have hbd : bdT t i = badN (syT t i) (t i) := rfl
      have hbg := bad_g (d := (syT t i).1) (g := (syT t i).2.1) (st := (syT t i).2.2) (c := t i)
      rw [ile_f hin (by omega), c_gfR y1 z1 (by omega), c_ldI z2 (by omega) (by omega), ht i hin, k_dig hc, c_bnd]
      have fin : ∀ g', g' = (syN (syT t i) (t i)).2.1 → (4 < g' ↔ isDg (t i) ∧ 4 ≤ (syT t i).2.1) → (i < n ∧ ∃ s', f_X2_syntaxError_B9_L42 Γ e (nI (syT t i).1) (nI (1 - (syT t i).2.2)) (nI i) (nI (t i)) (nI g') (cS N R J) = some (.inl s') ∧ s' = (nI (syT t (i + 1)).1, nI (syT t (i + 1)).2.1, nI (1 - (syT t (i + 1)).2.2), nI (i + 1), cS N R J) ∧ ∀ j, j < i + 1 → bdT t j = 0) ∨ ∃ b, f_X2_syntaxError_B9_L42 Γ e (nI (syT t i).1) (nI (1 - (syT t i).2.2)) (nI i) (nI (t i)) (nI g') (cS N R J) = some (.inr b) ∧ b = (if fnz (bdT t) n < n then .inr (nI (fnz (bdT t) n), cS N R J) else .inl (nI (syT t n).1, nI (1 - (syT t n).2.2), cS N R J)) := by
        intro g' hg' hg4
        have hg5 : g' ≤ 5 := by
          rw [hg']
          show (if isDg (t i) then (syT t i).2.1 + 1 else 0) ≤ 5
          by_cases u : isDg (t i)
          · rw [if_pos u]; omega
          · rw [if_neg u]; omega
        rw [k_syn42 hc s1 s3 hg5 (by omega)]
        by_cases e2 : 4 < g' ∨ badN ((syT t i).1, 0, (syT t i).2.2) (t i) ≠ 0
        · rw [if_pos e2]
          have hne : bdT t i ≠ 0 := fun u => by
            rw [hbd] at u
            obtain ⟨u1, u2⟩ := hbg.mp u
            exact e2.elim (fun v => u1 (hg4.mp v)) (fun v => v u2)
          have hf : fnz (bdT t) n = i := fnz_of (by omega) hg (fun _ => hne)
          refine Or.inr ⟨_, rfl, ?_⟩
          rw [hf, if_pos hin]
        · rw [if_neg e2]
          have hz : bdT t i = 0 := by
            rw [hbd]
            refine hbg.mpr ⟨fun u => e2 (Or.inl (hg4.mpr u)), ?_⟩
            rcases Nat.eq_zero_or_pos (badN ((syT t i).1, 0, (syT t i).2.2) (t i)) with u | u
            · exact u
            · exact absurd (Or.inr (by omega)) e2
          refine Or.inl ⟨hin, _, rfl, ?_, fun j hj => ?_⟩
          · rw [hs, ← hg']
            rfl
          · by_cases u : j = i
            · rw [u]; exact hz
            · exact hg j (by omega)
      by_cases h : isDg (t i)
      · rw [b01_t h, if_neg m1n0, L1, nI_add]
        exact fin _ (show _ = if isDg (t i) then (syT t i).2.1 + 1 else 0 by rw [if_pos h]) ⟨fun u => ⟨h, by omega⟩, fun u => by omega⟩
      · rw [b01_f h, if_pos m0e, L0]
        exact fin 0 (show _ = if isDg (t i) then (syT t i).2.1 + 1 else 0 by rw [if_neg h]) ⟨fun u => absurd u (by omega), fun u => absurd u.1 h⟩
  obtain ⟨b, e1, e2⟩ := hl
  unfold f_X2_syntaxError f_X2_syntaxError_L126 f_X2_syntaxError_L118 f_X2_syntaxError_L126
  rw [L0, L1, e1, e2]
  by_cases e3 : fnz (bdT t) n < n
  · rw [if_pos e3, if_pos e3]
    rfl
  · rw [if_neg e3, if_neg e3]
    have hall := fnz_all (f := bdT t) (n := n) (by have := fnz_le (f := bdT t) n; omega)
    obtain ⟨⟨s1, s2, s3⟩, _⟩ := sInv_all n hall
    show (if nI (1 - (syT t n).2.2) = nI 0 then (if nI (syT t n).1 ≤ nI 0 then some (-1, cS N R J) else gfI Γ (cS N R J) e 2 1 fun v11 => some (v11, cS N R J)) else gfI Γ (cS N R J) e 2 1 fun v11 => some (v11, cS N R J)) = _
    rw [c_gfI y1, h1]
    by_cases e4 : (syT t n).2.2 = 1
    · rw [ieq_t (by omega)]
      by_cases e5 : (syT t n).1 = 0
      · rw [ile_t (by omega) (by omega), if_pos ⟨e4, e5⟩]
        rfl
      · rw [ile_f (by omega) (by omega), if_neg (fun u => e5 u.2)]
    · rw [ieq_f (by omega) (by omega) (by omega), if_neg (fun u => e4 u.1)]
end CSY
