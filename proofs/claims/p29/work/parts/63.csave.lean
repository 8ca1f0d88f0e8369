/-! ===== the class: the oldest saved automaton dropped ===== -/
section CS3
variable {Γ : zSh} {N R : Mem} {J : Nat → Nat → Int64} {o : Nat}
theorem c_drop (ho : Γ o = some (6 + 5, 0)) (h1 : R o 1 = o + 26) (h2 : R o 2 = o + 51) (g1 : Γ (o + 26) = some (4, 4)) (g2 : Γ (o + 51) = some (0, 4)) (hs : ∀ k, k < 4 → R (o + 26) k ≠ 0 ∧ Γ (R (o + 26) k) = some (5, 0)) (ho0 : o ≠ 0) : MxR (f_X6_dropOldest Γ o (cS N R J)) (fun σ => ((), σ)) J (fun N' R' => (∀ x, x ≠ o → x ≠ o + 51 → N' x = N x) ∧ (∀ i, i ≠ 3 → N' o i = N o i) ∧ N' o 3 = 3 ∧ (∀ k, k < 3 → N' (o + 51) k = N (o + 51) (k + 1)) ∧ (∀ x, x ≠ o + 26 → R' x = R x) ∧ (∀ k, k < 3 → R' (o + 26) k = R (o + 26) (k + 1)) ∧ R' (o + 26) 3 = R (o + 26) 0) := by
  unfold f_X6_dropOldest
  rw [c_gfR ho h1 (by omega), L0, c_ldA g1 rfl (hs 0 (by omega)).1 (by omega) (by omega), L1]
  refine mr_lb0 (mr_for (fun k N' R' => (∀ x, x ≠ o + 51 → N' x = N x) ∧ (∀ i, N' (o + 51) i = if i + 1 < k then N (o + 51) (i + 1) else N (o + 51) i) ∧ (∀ x, x ≠ o + 26 → R' x = R x) ∧ ∀ i, R' (o + 26) i = if i + 1 < k then R (o + 26) (i + 1) else R (o + 26) i) (s := 1) (e := 4) (by omega) (by omega) ⟨fun x _ => rfl, fun i => by rw [if_neg (by omega)], fun x _ => rfl, fun i => by rw [if_neg (by omega)]⟩ ?_ ?_) ?_
  · intro k N1 R1 hk1 hk2 ⟨r1, r2, r3, r4⟩
    have e1 : R1 o 1 = o + 26 := by rw [r3 o (by omega)]; exact h1
    have e3 : R1 (o + 26) k = R (o + 26) k := by rw [r4, if_neg (by omega)]
    have e4 : N1 (o + 51) k = N (o + 51) k := by rw [r2, if_neg (by omega)]
    obtain ⟨z1, z2⟩ := hs k hk2
    have e5 : (up2 R1 (o + 26) (k - 1) (R (o + 26) k)) o 2 = o + 51 := by rw [up2_ne (by omega), r3 o (by omega)]; exact h2
    show MxR (f_X6_dropOldest_B9 _ _ _ _ _) _ _ _
    unfold f_X6_dropOldest_B9
    rw [L4, ile_f (by omega) (by omega), c_gfR ho e1 (by omega), c_gfR ho e1 (by omega), c_ldA g1 e3 z1 (by omega) (by omega), show decide (R (o + 26) k ≠ 0) = true from decide_eq_true z1, c_chk, L1, pk_sub (by omega), c_stA g1 (by omega) (by omega) z2, c_gfR ho e5 (by omega), c_gfR ho e5 (by omega), c_ldI g2 (by omega) (by omega), e4, c_stI g2 (by omega) (by omega), nI_add]
    refine mr_eq rfl ⟨fun x hx => ?_, fun i => ?_, fun x hx => ?_, fun i => ?_⟩
    · rw [setF_ne hx]; exact r1 x hx
    · rw [setF_at]
      by_cases e : i = k - 1
      · subst e
        rw [up1_at, if_pos (by omega), show k - 1 + 1 = k by omega]
      · rw [up1_ne e, r2 i]
        by_cases e6 : i + 1 < k
        · rw [if_pos e6, if_pos (by omega)]
        · rw [if_neg e6, if_neg (by omega)]
    · rw [up2_ne hx]; exact r3 x hx
    · unfold up2
      by_cases e : i = k - 1
      · subst e
        rw [if_pos ⟨rfl, rfl⟩, if_pos (by omega), show k - 1 + 1 = k by omega]
      · rw [if_neg (fun q => e q.2), r4 i]
        by_cases e6 : i + 1 < k
        · rw [if_pos e6, if_pos (by omega)]
        · rw [if_neg e6, if_neg (by omega)]
  · intro N1 R1 _
    show f_X6_dropOldest_B9 _ _ _ _ _ = _
    unfold f_X6_dropOldest_B9
    rw [L4, ile_t (by omega) (by omega)]
  · intro N1 R1 ⟨r1, r2, r3, r4⟩
    have e1 : R1 o 1 = o + 26 := by rw [r3 o (by omega)]; exact h1
    obtain ⟨z1, z2⟩ := hs 0 (by omega)
    rw [c_gfR ho e1 (by omega), show decide (R (o + 26) 0 ≠ 0) = true from decide_eq_true z1, c_chk, L3, c_stA g1 (by omega) (by omega) z2, c_pfI ho]
    refine mr_eq rfl ⟨fun x a b => ?_, fun i hi => ?_, ?_, fun k hk => ?_, fun x hx => ?_, fun k hk => ?_, up2_at⟩
    · rw [setF_ne a]; exact r1 x b
    · rw [setF_at, up1_ne hi, r1 o (by omega)]
    · rw [setF_at, up1_at]
    · rw [setF_ne (by omega), r2, if_pos (by omega)]
    · rw [up2_ne hx]; exact r3 x hx
    · unfold up2
      rw [if_neg (by omega), r4, if_pos (by omega)]
end CS3
