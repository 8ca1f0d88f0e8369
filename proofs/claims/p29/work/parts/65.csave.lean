/-! ===== the class: saving ===== -/
section CV
variable {Γ : zSh} {N R : Mem} {J : Nat → Nat → Int64} {o slot m : Nat} {s : aS} {A B : Au}
theorem c_saveL (hsh : cSh Γ R o) (hm : N o 3 = m) (hm4 : m < 4) (hs : slot < 4) (hA : cAu N (o + 2 + 6 * slot) A) (h12 : A.1 ≤ 12) : Mx (f_X6_save_L12 Γ o (nI slot) (cS N R J)) (fun σ => ((), σ)) R J (fun N' => (∀ x, x ≠ o → x ≠ o + 51 → x < R (o + 26) m ∨ R (o + 26) m + 6 ≤ x → N' x = N x) ∧ (∀ i, i ≠ 3 → N' o i = N o i) ∧ N' o 3 = m + 1 ∧ N' (o + 51) = up1 (N (o + 51)) m slot ∧ cAu N' (R (o + 26) m) A) := by
  obtain ⟨⟨ho, ho0⟩, ⟨g1, g2, g3⟩, ⟨r0, r1, r2⟩, hsl, hsv, f, f1, f2⟩ := hsh
  obtain ⟨e1, e2⟩ := f1 m hm4
  obtain ⟨l1, l2⟩ := hsl slot hs
  have a1 := hsv (f m) e1
  rw [e2]
  unfold f_X6_save_L12
  simp (disch := omega) only [c_bnd, c_chk, c_lb0, c_lb1, c_lb2, c_lb3, L0, L1, L2, L10007, nI_add, pk_mul, ile_t, ile_f, ilt_t, ilt_f, ieq_t, ieq_f, c_rmI, setF_at, setF_ne, setF_setF, true_and, up1_at, up1_ne, pk_sub, pk_cpy_in, pk_cpy_out, Nat.zero_add, Nat.add_zero, Nat.zero_mul, Nat.sub_zero, Nat.add_sub_cancel_left, c_gfR ho r0, c_gfR ho r1, c_gfR ho r2, c_gfI ho, hm, c_stI g3, c_ldA g2 e2, c_ldA g1 l1, c_chkO a1.ob]
  have hA1 : cAu (setF N (o + 51) (up1 (N (o + 51)) m slot)) (o + 2 + 6 * slot) A := hA.fr (frA.set (Nat.le_refl (o + 51)) (Nat.lt_succ_self _)) (by omega)
  refine mx_bnd (s_copy a1 l2 (by omega) hA1 h12 h12) ?_
  intro N1 ⟨q1, q2⟩
  have q3 : N1 o 3 = m := by rw [q1 o (by omega), setF_ne (by omega)]; exact hm
  simp (disch := omega) only [c_bnd, c_chk, c_lb0, c_lb1, c_lb2, c_lb3, L0, L1, L2, L10007, nI_add, pk_mul, ile_t, ile_f, ilt_t, ilt_f, ieq_t, ieq_f, c_rmI, setF_at, setF_ne, setF_setF, true_and, up1_at, up1_ne, pk_sub, pk_cpy_in, pk_cpy_out, Nat.zero_add, Nat.add_zero, Nat.zero_mul, Nat.sub_zero, Nat.add_sub_cancel_left, c_gfI ho, q3, c_pfI ho]
  refine mx_eq rfl ⟨fun x a b c => ?_, fun i hi => ?_, ?_, ?_, ?_⟩
  · rw [setF_ne a, q1 x c, setF_ne b]
  · rw [setF_at, up1_ne hi, q1 o (by omega), setF_ne (by omega)]
  · rw [setF_at, up1_at]
  · rw [setF_ne (by omega), q1 (o + 51) (by omega), setF_at]
  · exact q2.fr (frA.set (Nat.le_refl o) (Nat.lt_succ_self _)) (by omega)
theorem c_save (hsh : cSh Γ R o) (hI : aI s) (h : CSt N R o s) (hs : slot < 4) : MxR (f_X6_save Γ o (nI slot) (cS N R J)) (fun σ => ((), σ)) J (fun N' R' => cSh Γ R' o ∧ CSt N' R' o (aSave s slot (s.2.1 s.1 slot)) ∧ (∀ x, x < o ∨ o + 52 ≤ x → N' x = N x) ∧ (∀ i, i ≠ 3 → N' o i = N o i) ∧ ∀ x, x ≠ o + 26 → R' x = R x) := by
  obtain ⟨b1, b2⟩ := aBase_le hI.1
  have hsh0 := hsh
  obtain ⟨⟨ho, ho0⟩, ⟨g1, g2, g3⟩, ⟨r0, r1, r2⟩, hsl, hsv, f, f1, f2⟩ := hsh
  -- the state with room for one more
  have fin : ∀ N1 R1, cSh Γ R1 o → (∀ x, x ≠ o → x ≠ o + 51 → N1 x = N x) → (∀ i, i ≠ 3 → N1 o i = N o i) → N1 o 3 = aBase s.1 → (∀ k, k < aBase s.1 → N1 (o + 51) k = N (o + 51) (k + aOff s.1) ∧ R1 (o + 26) k = R (o + 26) (k + aOff s.1)) → (∀ x, x ≠ o + 26 → R1 x = R x) → MxR (f_X6_save_L12 Γ o (nI slot) (cS N1 R1 J)) (fun σ => ((), σ)) J (fun N' R' => cSh Γ R' o ∧ CSt N' R' o (aSave s slot (s.2.1 s.1 slot)) ∧ (∀ x, x < o ∨ o + 52 ≤ x → N' x = N x) ∧ (∀ i, i ≠ 3 → N' o i = N o i) ∧ ∀ x, x ≠ o + 26 → R' x = R x) := by
    intro N1 R1 hsh1 n1 n2 n3 n4 n5
    have hA1 : cAu N1 (o + 2 + 6 * slot) (s.2.1 s.1 slot) := by
      refine ⟨by rw [n1 _ (by omega) (by omega)]; exact (h.2.1 slot hs).1, fun i hi => ⟨?_, ?_, fun j l hj hl => ?_⟩⟩
      · rw [n1 _ (by omega) (by omega)]; exact ((h.2.1 slot hs).2 i hi).1
      · rw [n1 _ (by omega) (by omega)]; exact ((h.2.1 slot hs).2 i hi).2.1
      · rw [n1 _ (by omega) (by omega)]; exact ((h.2.1 slot hs).2 i hi).2.2 j l hj hl
    obtain ⟨N2, e, p1, p2, p3, p4, p5⟩ := c_saveL (J := J) hsh1 n3 (by omega) hs hA1 (hI.2.1 s.1 slot (Nat.le_refl _) hs).2
    obtain ⟨_, _, _, _, _, f', f1', f2'⟩ := id hsh1
    obtain ⟨z1, z2⟩ := f1' (aBase s.1) (by omega)
    have cp : ∀ a X, (a + 6 ≤ R1 (o + 26) (aBase s.1) ∨ R1 (o + 26) (aBase s.1) + 6 ≤ a) → o < a → a + 6 ≤ o + 51 → cAu N a X → cAu N2 a X := by
      intro a X d1 d2 d3 hX
      have k : ∀ x, a ≤ x → x < a + 6 → N2 x = N x := fun x y1 y2 => by rw [p1 x (by omega) (by omega) (by omega), n1 x (by omega) (by omega)]
      refine ⟨by rw [k _ (by omega) (by omega)]; exact hX.1, fun i hi => ⟨?_, ?_, fun j l hj hl => ?_⟩⟩
      · rw [k _ (by omega) (by omega)]; exact (hX.2 i hi).1
      · rw [k _ (by omega) (by omega)]; exact (hX.2 i hi).2.1
      · rw [k _ (by omega) (by omega)]; exact (hX.2 i hi).2.2 j l hj hl
    refine ⟨N2, R1, e, hsh1, ⟨p3, fun q hq => ?_, fun k hk => ?_⟩, fun x hx => ?_, fun i hi => by rw [p2 i hi]; exact n2 i hi, n5⟩
    · have : (aSave s slot (s.2.1 s.1 slot)).2.1 (aSave s slot (s.2.1 s.1 slot)).1 q = s.2.1 s.1 q := by
        show (if aBase s.1 + 1 = aBase s.1 + 1 then _ else _) = _
        rw [if_pos rfl]
        by_cases e2 : q = slot
        · rw [if_pos e2, e2]
        · rw [if_neg e2]
      rw [this]
      exact cp _ _ (by omega) (by omega) (by omega) (h.2.1 q hq)
    · have hk' : k < aBase s.1 + 1 := hk
      have t1 : (aSave s slot (s.2.1 s.1 slot)).2.2 k = if k = aBase s.1 then slot else s.2.2 (k + aOff s.1) := rfl
      have t2 : ∀ q, (aSave s slot (s.2.1 s.1 slot)).2.1 k q = s.2.1 (k + aOff s.1) q := fun q => by
        show (if k = aBase s.1 + 1 then _ else _) = _
        rw [if_neg (by omega)]
      rw [t1, t2, p4]
      by_cases e2 : k = aBase s.1
      · rw [if_pos e2, e2, up1_at, b2]
        exact ⟨rfl, p5⟩
      · rw [if_neg e2, up1_ne e2]
        obtain ⟨m1, m2⟩ := n4 k (by omega)
        obtain ⟨c1, c2⟩ := h.2.2 (k + aOff s.1) (by omega)
        rw [m1, m2]
        refine ⟨c1, ?_⟩
        obtain ⟨y1, y2⟩ := f1' k (by omega)
        have y3 := f2' k (aBase s.1) (by omega) (by omega) e2
        rw [m2] at y2
        rw [y2] at c2 ⊢
        exact cp _ _ (by omega) (by omega) (by omega) c2
    · by_cases e1 : x = o + 51
      · omega
      · rw [p1 x (by omega) e1 (by omega), n1 x (by omega) e1]
  unfold f_X6_save
  rw [c_gfI ho, h.1, L4]
  by_cases e : s.1 = 4
  · rw [ilt_f (by omega) (by omega), c_chkO ho]
    have o1 : aOff s.1 = 1 := if_pos e
    have o3 : aBase s.1 = 3 := if_pos e
    refine mr_bnd (c_drop ho r1 r2 g2 g3 (fun k hk => ?_) ho0) ?_
    · obtain ⟨y1, y2⟩ := f1 k hk
      rw [y2]
      exact ⟨by omega, (hsv _ y1).ob⟩
    intro N1 R1 ⟨d1, d2, d3, d4, d5, d6, d7⟩
    have hsh1 : cSh Γ R1 o := by
      refine ⟨⟨ho, ho0⟩, ⟨g1, g2, g3⟩, ⟨by rw [d5 o (by omega)]; exact r0, by rw [d5 o (by omega)]; exact r1, by rw [d5 o (by omega)]; exact r2⟩, fun q hq => ?_, fun j hj => (hsv j hj).frR (d5 _ (by omega)) (d5 _ (by omega)), fun k => if k < 3 then f (k + 1) else f 0, fun k hk => ?_, fun k k' hk hk' hne => ?_⟩
      · rw [d5 _ (by omega)]
        exact ⟨(hsl q hq).1, (hsl q hq).2.frR (d5 _ (by omega)) (d5 _ (by omega))⟩
      · dsimp only
        by_cases e3 : k < 3
        · rw [if_pos e3, d6 k e3]; exact f1 (k + 1) (by omega)
        · rw [if_neg e3, show k = 3 by omega, d7]; exact f1 0 (by omega)
      · dsimp only
        by_cases e3 : k < 3
        · rw [if_pos e3]
          by_cases e4 : k' < 3
          · rw [if_pos e4]; exact f2 _ _ (by omega) (by omega) (by omega)
          · rw [if_neg e4]; exact f2 _ _ (by omega) (by omega) (by omega)
        · rw [if_neg e3]
          by_cases e4 : k' < 3
          · rw [if_pos e4]; exact f2 _ _ (by omega) (by omega) (by omega)
          · omega
    refine fin N1 R1 hsh1 d1 d2 (by rw [d3, o3]) (fun k hk => ?_) d5
    rw [o1]
    exact ⟨d4 k (by omega), d6 k (by omega)⟩
  · have o1 : aOff s.1 = 0 := if_neg e
    have o3 : aBase s.1 = s.1 := if_neg e
    have := hI.1
    rw [ilt_t (by omega) (by omega)]
    refine fin N R hsh0 (fun x _ _ => rfl) (fun i _ => rfl) (by rw [o3]; exact h.1) (fun k hk => ?_) (fun x _ => rfl)
    rw [o1, Nat.add_zero]
    exact ⟨rfl, rfl⟩
end CV
