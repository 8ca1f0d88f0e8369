/-! ===== what the constructors make: rows of automata, the expression, the class ===== -/
section MA
variable {Γ Γ' : zSh} {R R' : Mem} {z z' z1 n o a cap : Nat}
theorem auS.uf (h : auS Γ R a cap) (f : ∀ x, a ≤ x → x < a + 6 → Γ' x = Γ x ∧ R' x = R x) : auS Γ' R' a cap := by
  obtain ⟨h1, ⟨a0, a1, a2, a3, a4, a5⟩, b1, b2, b3, b4, b5⟩ := h
  refine ⟨h1, ⟨by rw [(f a (by omega) (by omega)).1]; exact a0, by rw [(f (a + 1) (by omega) (by omega)).1]; exact a1, by rw [(f (a + 2) (by omega) (by omega)).1]; exact a2, by rw [(f (a + 3) (by omega) (by omega)).1]; exact a3, by rw [(f (a + 4) (by omega) (by omega)).1]; exact a4, by rw [(f (a + 5) (by omega) (by omega)).1]; exact a5⟩, by rw [(f a (by omega) (by omega)).2]; exact b1, by rw [(f a (by omega) (by omega)).2]; exact b2, by rw [(f a (by omega) (by omega)).2]; exact b3, by rw [(f (a + 3) (by omega) (by omega)).2]; exact b4, by rw [(f (a + 3) (by omega) (by omega)).2]; exact b5⟩
theorem up2_if {k v i : Nat} : up2 R a k v a i = if i = k then v else R a i := by
  unfold up2
  by_cases e : i = k
  · rw [if_pos ⟨rfl, e⟩, if_pos e]
  · rw [if_neg (fun u => e u.2), if_neg e]
theorem nx_autos (hz : z ≠ 0) (hn : n ≤ 9) (hz' : z' = z + 1 + 6 * n) : ∃ Γ' R', f_X6_automata Γ z (nI n) (cS N0 R J0) = some (z, Γ', z', cS N0 R' J0) ∧ uF Γ R Γ' R' z ∧ Γ' z = some (4, n) ∧ ∀ k, k < n → R' z k = z + 1 + 6 * k ∧ auS Γ' R' (z + 1 + 6 * k) 12 := by
  unfold f_X6_automata
  rw [a_nwA (by omega) (by omega), L0]
  have hl : ∃ b, loopM (fun q => f_X6_automata_B6 q.2.1 q.2.2.1 (nI n) z q.1 q.2.2.2) 10 (nI 0, upS Γ z (4, n), z + 1, cS N0 (setF R z (fun _ => 0)) J0) = some b ∧ ∃ Γ' R', b = (Γ', z', cS N0 R' J0) ∧ uF Γ R Γ' R' z ∧ Γ' z = some (4, n) ∧ ∀ k, k < n → R' z k = z + 1 + 6 * k ∧ auS Γ' R' (z + 1 + 6 * k) 12 := by
    refine loopM_e (fun k s => ∃ (Γ' : zSh) (R' : Mem), s = (nI k, Γ', z + 1 + 6 * k, cS N0 R' J0) ∧ uF Γ R Γ' R' z ∧ Γ' z = some (4, n) ∧ ∀ j, j < k → R' z j = z + 1 + 6 * j ∧ auS Γ' R' (z + 1 + 6 * j) 12) (fun b => ∃ (Γ' : zSh) (R' : Mem), b = (Γ', z', cS N0 R' J0) ∧ uF Γ R Γ' R' z ∧ Γ' z = some (4, n) ∧ ∀ k, k < n → R' z k = z + 1 + 6 * k ∧ auS Γ' R' (z + 1 + 6 * k) 12) n ?_ n 0 10 _ (by omega) ⟨_, _, rfl, fun x hx => ⟨upS_ne (by omega), setF_ne (by omega)⟩, upS_at, fun j hj => absurd hj (Nat.not_lt_zero j)⟩ (by omega)
    intro k s hk ⟨Γ1, R1, e0, h1, h2, h3⟩
    subst e0
    show (k < n ∧ ∃ s', f_X6_automata_B6 _ _ _ _ _ _ = some (.inl s') ∧ _) ∨ ∃ b, f_X6_automata_B6 _ _ _ _ _ _ = some (.inr b) ∧ _
    unfold f_X6_automata_B6
    by_cases e : k = n
    · rw [ile_t (by omega) (by omega)]
      exact Or.inr ⟨_, rfl, Γ1, R1, by rw [hz', e], h1, h2, by rw [← e]; exact h3⟩
    · obtain ⟨Γ2, R2, e1, f1, a1⟩ := nx_X0 (Γ := Γ1) (R := R1) (z := z + 1 + 6 * k) (n := 12) (by omega) (by omega)
      have g2 : Γ2 z = some (4, n) := by rw [(f1 z (by omega)).1]; exact h2
      rw [ile_f (by omega) (by omega), a_nwO, L12, e1, a_bnd, show decide (z + 1 + 6 * k ≠ 0) = true from decide_eq_true (by omega), c_chk, c_stA g2 (by omega) (by omega) a1.2.1.1, L1, nI_add]
      refine Or.inl ⟨by omega, _, rfl, Γ2, up2 R2 z k (z + 1 + 6 * k), ?_, fun x hx => ⟨(f1 x (by omega)).1.trans (h1 x hx).1, by rw [up2_ne (by omega)]; exact (f1 x (by omega)).2.trans (h1 x hx).2⟩, g2, fun j hj => ?_⟩
      · rw [show z + 1 + 6 * k + 6 = z + 1 + 6 * (k + 1) by omega]
      · by_cases e5 : j = k
        · subst e5
          exact ⟨up2_at, a1.frR (up2_ne (by omega)) (up2_ne (by omega))⟩
        · obtain ⟨c1, c2⟩ := h3 j (by omega)
          refine ⟨?_, c2.uf (fun x q1 q2 => ⟨(f1 x (by omega)).1, by rw [up2_ne (by omega)]; exact (f1 x (by omega)).2⟩)⟩
          rw [up2_k (by omega), (f1 z (by omega)).2]
          exact c1
  obtain ⟨b, e1, Γ1, R1, rfl, h1, h2, h3⟩ := hl
  rw [e1]
  refine ⟨Γ1, R1, ?_, h1, h2, h3⟩
  show chk (decide (z ≠ 0)) (some (z, Γ1, z', cS N0 R1 J0)) = _
  rw [show decide (z ≠ 0) = true from decide_eq_true hz]
  rfl
theorem wS.uf {w u u' : Nat} (h : wS Γ R w u u') (f : ∀ x, w ≤ x → x < w + 3 → Γ' x = Γ x ∧ R' x = R x) : wS Γ' R' w u u' := by
  obtain ⟨h1, h2, h3, h4, h5, h6⟩ := h
  exact ⟨by rw [(f w (by omega) (by omega)).1]; exact h1, by rw [(f (w + 1) (by omega) (by omega)).1]; exact h2, by rw [(f (w + 2) (by omega) (by omega)).1]; exact h3, by rw [(f w (by omega) (by omega)).2]; exact h4, by rw [(f w (by omega) (by omega)).2]; exact h5, h6⟩
theorem ptS.uf {pt : Nat} (h : ptS Γ R pt) (f : ∀ x, pt ≤ x → x < pt + 15 → Γ' x = Γ x ∧ R' x = R x) : ptS Γ' R' pt := by
  obtain ⟨h1, h2, h3, h4, h5, h6, h7⟩ := h
  exact ⟨by rw [(f pt (by omega) (by omega)).1]; exact h1, by rw [(f (pt + 1) (by omega) (by omega)).1]; exact h2, by rw [(f (pt + 2) (by omega) (by omega)).1]; exact h3, by rw [(f pt (by omega) (by omega)).2]; exact h4, by rw [(f pt (by omega) (by omega)).2]; exact h5, h6, fun k hk => ⟨by rw [(f (pt + 3 + k) (by omega) (by omega)).1]; exact (h7 k hk).1, by rw [(f (pt + 2) (by omega) (by omega)).2]; exact (h7 k hk).2⟩⟩
theorem gS.uf {g : Nat} {π : Nat → Nat} (h : gS Γ R g π) (f : ∀ x, g ≤ x → x < g + 33 → Γ' x = Γ x ∧ R' x = R x) : gS Γ' R' g π := by
  obtain ⟨⟨h1, h2⟩, h3, h4, h5, h6⟩ := h
  refine ⟨⟨by rw [(f g (by omega) (by omega)).1]; exact h1, h2⟩, by rw [(f (g + 1) (by omega) (by omega)).1]; exact h3, by rw [(f g (by omega) (by omega)).2]; exact h4, fun k hk => ?_, h6⟩
  obtain ⟨a, b, c⟩ := h5 k hk
  exact ⟨a, by rw [(f (g + 1) (by omega) (by omega)).2]; exact b, by rw [(f (g + 2 + k) (by omega) (by omega)).1]; exact c⟩
theorem bS.uf {b : Nat} (h : bS Γ R b) (f : ∀ x, b ≤ x → x < b + 131 → Γ' x = Γ x ∧ R' x = R x) : bS Γ' R' b := by
  obtain ⟨⟨h1, h2⟩, h3, h4, h5⟩ := h
  refine ⟨⟨by rw [(f b (by omega) (by omega)).1]; exact h1, h2⟩, fun i k t n hm => ?_, fun k hk => ?_, fun k hk => ?_⟩
  · have hk : k ≤ 130 := by
      have : ∀ q ∈ [(1, 1, 0, 24), (2, 2, 0, 24), (3, 3, 3, 24), (4, 28, 3, 24), (5, 53, 3, 24), (6, 78, 0, 24), (7, 79, 3, 48), (8, 128, 0, 24), (9, 129, 0, 24), (10, 130, 0, 24)], q.2.1 ≤ 130 := by decide
      exact this _ hm
    rw [(f (b + k) (by omega) (by omega)).1, (f b (by omega) (by omega)).2]
    exact h3 i k t n hm
  · obtain ⟨⟨a1, a2⟩, ⟨a3, a4⟩, a5, a6⟩ := h4 k hk
    exact ⟨⟨by rw [(f (b + 4 + k) (by omega) (by omega)).1]; exact a1, by rw [(f (b + 3) (by omega) (by omega)).2]; exact a2⟩, ⟨by rw [(f (b + 29 + k) (by omega) (by omega)).1]; exact a3, by rw [(f (b + 28) (by omega) (by omega)).2]; exact a4⟩, by rw [(f (b + 54 + k) (by omega) (by omega)).1]; exact a5, by rw [(f (b + 53) (by omega) (by omega)).2]; exact a6⟩
  · obtain ⟨a1, a2⟩ := h5 k hk
    exact ⟨by rw [(f (b + 80 + k) (by omega) (by omega)).1]; exact a1, by rw [(f (b + 79) (by omega) (by omega)).2]; exact a2⟩
theorem eS.uf {e : Nat} (h : eS Γ R e) (f : ∀ x, e ≤ x → x < e + 126 → Γ' x = Γ x ∧ R' x = R x) : eS Γ' R' e := by
  obtain ⟨⟨h1, h2⟩, h3, ⟨g1, g2, g3, g4, g5⟩, h4, h5, h6⟩ := h
  refine ⟨⟨by rw [(f e (by omega) (by omega)).1]; exact h1, h2⟩, by rw [(f e (by omega) (by omega)).2]; exact h3, ⟨by rw [(f (e + 1) (by omega) (by omega)).1]; exact g1, by rw [(f (e + 2) (by omega) (by omega)).1]; exact g2, by rw [(f (e + 57) (by omega) (by omega)).1]; exact g3, by rw [(f (e + 58) (by omega) (by omega)).1]; exact g4, by rw [(f (e + 113) (by omega) (by omega)).1]; exact g5⟩, fun k hk => ?_, h5.uf (fun x a b => f x (by omega) (by omega)), h6.uf (fun x a b => f x (by omega) (by omega))⟩
  obtain ⟨a1, a2, a3, a4⟩ := h4 k hk
  exact ⟨by rw [(f (e + 2) (by omega) (by omega)).2]; exact a1, a2.uf (fun x a b => f x (by omega) (by omega)), by rw [(f (e + 58) (by omega) (by omega)).2]; exact a3, a4.uf (fun x a b => f x (by omega) (by omega))⟩
theorem nx_X2 (hz : z ≠ 0) : ∃ Γ' R', f_X2_init (upS Γ z (2 + 5, 0)) (z + 1) z (cS N0 (setF R z (fun _ => 0)) J0) = some ((), Γ', z + 126, cS N0 R' J0) ∧ uF Γ R Γ' R' z ∧ eS Γ' R' z := by
  unfold f_X2_init
  rw [L60, L9, L12]
  have o0 : (upS Γ z (2 + 5, 0)) z = some (2 + 5, 0) := upS_at
  have o1 := o_upS (z := z + 1) (sh := (0, 60)) o0 (by omega)
  rw [a_nwA (by omega) (by omega), c_pfR o1 (by omega)]
  have t1 : uQ (upS Γ z (2 + 5, 0)) (setF R z (fun _ => 0)) (upS (upS Γ z (2 + 5, 0)) (z + 1) (0, 60)) (up2 (setF (setF R z (fun _ => 0)) (z + 1) (fun _ => 0)) z 0 (z + 1)) z (z + 1) := fun x a b => ⟨upS_ne (by omega), by rw [up2_ne b, setF_ne (by omega)]⟩
  generalize hG1 : (upS (upS Γ z (2 + 5, 0)) (z + 1) (0, 60)) = G1 at *
  generalize hQ1 : up2 (setF (setF R z (fun _ => 0)) (z + 1) (fun _ => 0)) z 0 (z + 1) = Q1 at *
  have a1 : G1 (z + 1) = some (0, 60) := by rw [← hG1]; exact upS_at
  have r1 : ∀ i, Q1 z i = if i = 0 then z + 1 else (setF R z (fun _ => 0)) z i := fun i => by rw [← hQ1, up2_if, setF_ne (show z ≠ z + 1 by omega)]
  obtain ⟨Γ2, R2, e2, f2, b2, s2⟩ := nx_autos (Γ := G1) (R := Q1) (z := z + 2) (z' := z + 57) (n := 9) (by omega) (by omega) (by omega)
  rw [e2, a_bnd]
  have o2 : Γ2 z = some (2 + 5, 0) := by rw [(f2 z (by omega)).1]; exact o1
  rw [c_pfR o2 (by omega)]
  have t2 : uQ G1 Q1 Γ2 (up2 R2 z 2 (z + 2)) z (z + 2) := fun x a b => ⟨(f2 x a).1, by rw [up2_ne b]; exact (f2 x a).2⟩
  have v2 : ∀ x, x ≠ z → up2 R2 z 2 (z + 2) x = R2 x := fun x b => up2_ne b
  have r2 : ∀ i, up2 R2 z 2 (z + 2) z i = if i = 2 then z + 2 else Q1 z i := fun i => by rw [up2_if, (f2 z (by omega)).2]
  generalize up2 R2 z 2 (z + 2) = Q2 at *
  have o3 := o_upS (z := z + 57) (sh := (1, 9)) o2 (by omega)
  rw [a_nwA (by omega) (by omega), c_pfR o3 (by omega)]
  have t3 : uQ Γ2 Q2 (upS Γ2 (z + 57) (1, 9)) (up2 (setF Q2 (z + 57) (fun _ => 0)) z 3 (z + 57)) z (z + 57) := fun x a b => ⟨upS_ne (by omega), by rw [up2_ne b, setF_ne (by omega)]⟩
  generalize hG3 : (upS Γ2 (z + 57) (1, 9)) = G3 at *
  generalize hQ3 : up2 (setF Q2 (z + 57) (fun _ => 0)) z 3 (z + 57) = Q3 at *
  have a3 : G3 (z + 57) = some (1, 9) := by rw [← hG3]; exact upS_at
  have r3 : ∀ i, Q3 z i = if i = 3 then z + 57 else Q2 z i := fun i => by rw [← hQ3, up2_if, setF_ne (show z ≠ z + 57 by omega)]
  obtain ⟨Γ4, R4, e4, f4, b4, s4⟩ := nx_autos (Γ := G3) (R := Q3) (z := z + 58) (z' := z + 113) (n := 9) (by omega) (by omega) (by omega)
  rw [e4, a_bnd]
  have o4 : Γ4 z = some (2 + 5, 0) := by rw [(f4 z (by omega)).1]; exact o3
  rw [c_pfR o4 (by omega)]
  have t4 : uQ G3 Q3 Γ4 (up2 R4 z 4 (z + 58)) z (z + 58) := fun x a b => ⟨(f4 x a).1, by rw [up2_ne b]; exact (f4 x a).2⟩
  have v4 : ∀ x, x ≠ z → up2 R4 z 4 (z + 58) x = R4 x := fun x b => up2_ne b
  have r4 : ∀ i, up2 R4 z 4 (z + 58) z i = if i = 4 then z + 58 else Q3 z i := fun i => by rw [up2_if, (f4 z (by omega)).2]
  generalize up2 R4 z 4 (z + 58) = Q4 at *
  have o5 := o_upS (z := z + 113) (sh := (1, 9)) o4 (by omega)
  rw [a_nwA (by omega) (by omega), c_pfR o5 (by omega)]
  have t5 : uQ Γ4 Q4 (upS Γ4 (z + 113) (1, 9)) (up2 (setF Q4 (z + 113) (fun _ => 0)) z 5 (z + 113)) z (z + 113) := fun x a b => ⟨upS_ne (by omega), by rw [up2_ne b, setF_ne (by omega)]⟩
  generalize hG5 : (upS Γ4 (z + 113) (1, 9)) = G5 at *
  generalize hQ5 : up2 (setF Q4 (z + 113) (fun _ => 0)) z 5 (z + 113) = Q5 at *
  have a5 : G5 (z + 113) = some (1, 9) := by rw [← hG5]; exact upS_at
  have r5 : ∀ i, Q5 z i = if i = 5 then z + 113 else Q4 z i := fun i => by rw [← hQ5, up2_if, setF_ne (show z ≠ z + 113 by omega)]
  obtain ⟨Γ6, R6, e6, f6, s6⟩ := nx_X0 (Γ := G5) (R := Q5) (z := z + 114) (n := 12) (by omega) (by omega)
  rw [a_nwO, e6, a_bnd]
  have o6 : Γ6 z = some (2 + 5, 0) := by rw [(f6 z (by omega)).1]; exact o5
  rw [c_pfR o6 (by omega)]
  have t6 : uQ G5 Q5 Γ6 (up2 R6 z 6 (z + 114)) z (z + 114) := fun x a b => ⟨(f6 x a).1, by rw [up2_ne b]; exact (f6 x a).2⟩
  have v6 : ∀ x, x ≠ z → up2 R6 z 6 (z + 114) x = R6 x := fun x b => up2_ne b
  have r6 : ∀ i, up2 R6 z 6 (z + 114) z i = if i = 6 then z + 114 else Q5 z i := fun i => by rw [up2_if, (f6 z (by omega)).2]
  generalize up2 R6 z 6 (z + 114) = Q6 at *
  obtain ⟨Γ7, R7, e7, f7, s7⟩ := nx_X0 (Γ := Γ6) (R := Q6) (z := z + 120) (n := 12) (by omega) (by omega)
  rw [a_nwO, e7, a_bnd]
  have o7 : Γ7 z = some (2 + 5, 0) := by rw [(f7 z (by omega)).1]; exact o6
  rw [c_pfR o7 (by omega)]
  have t7 : uQ Γ6 Q6 Γ7 (up2 R7 z 8 (z + 120)) z (z + 120) := fun x a b => ⟨(f7 x a).1, by rw [up2_ne b]; exact (f7 x a).2⟩
  have v7 : ∀ x, x ≠ z → up2 R7 z 8 (z + 120) x = R7 x := fun x b => up2_ne b
  have r7 : ∀ i, up2 R7 z 8 (z + 120) z i = if i = 8 then z + 120 else Q6 z i := fun i => by rw [up2_if, (f7 z (by omega)).2]
  generalize up2 R7 z 8 (z + 120) = Q7 at *
  have w7 : ∀ y, uQ Γ7 Q7 Γ7 Q7 z y := fun y => uQ.refl
  have w6 : uQ Γ6 Q6 Γ7 Q7 z (z + 120) := t7.trans (w7 (z + 120)) (by omega)
  have w5 : uQ G5 Q5 Γ7 Q7 z (z + 114) := t6.trans w6 (by omega)
  have w4 : uQ Γ4 Q4 Γ7 Q7 z (z + 113) := t5.trans w5 (by omega)
  have w3 : uQ G3 Q3 Γ7 Q7 z (z + 58) := t4.trans w4 (by omega)
  have w2 : uQ Γ2 Q2 Γ7 Q7 z (z + 57) := t3.trans w3 (by omega)
  have w1 : uQ G1 Q1 Γ7 Q7 z (z + 2) := t2.trans w2 (by omega)
  have w0 : uQ (upS Γ z (2 + 5, 0)) (setF R z (fun _ => 0)) Γ7 Q7 z (z + 1) := t1.trans w1 (by omega)
  have rz : ∀ i, Q7 z i = if i = 8 then z + 120 else if i = 6 then z + 114 else if i = 5 then z + 113 else if i = 4 then z + 58 else if i = 3 then z + 57 else if i = 2 then z + 2 else if i = 0 then z + 1 else 0 := fun i => by rw [r7, r6, r5, r4, r3, r2, r1, setF_at]
  refine ⟨Γ7, Q7, rfl, fun x hx => ⟨(w0 x (by omega) (by omega)).1.trans (upS_ne (by omega)), (w0 x (by omega) (by omega)).2.trans (setF_ne (by omega))⟩, ?_⟩
  exact ⟨⟨o7, hz⟩, ⟨by rw [rz]; rfl, by rw [rz]; rfl, by rw [rz]; rfl, by rw [rz]; rfl, by rw [rz]; rfl, by rw [rz]; rfl, by rw [rz]; rfl⟩, ⟨(by rw [(w1 (z + 1) (by omega) (by omega)).1]; exact a1), (by rw [(w2 (z + 2) (by omega) (by omega)).1]; exact b2), (by rw [(w3 (z + 57) (by omega) (by omega)).1]; exact a3), (by rw [(w4 (z + 58) (by omega) (by omega)).1]; exact b4), (by rw [(w5 (z + 113) (by omega) (by omega)).1]; exact a5)⟩, fun k hk => ⟨(by rw [(w2 (z + 2) (by omega) (by omega)).2, v2 _ (by omega)]; exact (s2 k hk).1), ((s2 k hk).2.uf (fun x a b => ⟨(w2 x (by omega) (by omega)).1, by rw [(w2 x (by omega) (by omega)).2, v2 x (by omega)]⟩)), (by rw [(w4 (z + 58) (by omega) (by omega)).2, v4 _ (by omega)]; exact (s4 k hk).1), ((s4 k hk).2.uf (fun x a b => ⟨(w4 x (by omega) (by omega)).1, by rw [(w4 x (by omega) (by omega)).2, v4 x (by omega)]⟩))⟩, (s6.uf (fun x a b => ⟨(w6 x (by omega) (by omega)).1, by rw [(w6 x (by omega) (by omega)).2, v6 x (by omega)]⟩)), (s7.uf (fun x a b => ⟨(w7 (z + 100000) x (by omega) (by omega)).1, by rw [(w7 (z + 100000) x (by omega) (by omega)).2, v7 x (by omega)]⟩))⟩
theorem nx_X6 (hz : z ≠ 0) : ∃ Γ' R', f_X6_init (upS Γ z (6 + 5, 0)) (z + 1) z (cS N0 (setF R z (fun _ => 0)) J0) = some ((), Γ', z + 373, cS N0 R' J0) ∧ uF Γ R Γ' R' z ∧ kSh Γ' R' z := by
  unfold f_X6_init
  rw [L4, L12, L24, L43]
  have o0 : (upS Γ z (6 + 5, 0)) z = some (6 + 5, 0) := upS_at
  obtain ⟨Γ1, R1, e1, f1, b1, s1⟩ := nx_autos (Γ := (upS Γ z (6 + 5, 0))) (R := (setF R z (fun _ => 0))) (z := z + 1) (z' := z + 26) (n := 4) (by omega) (by omega) (by omega)
  rw [e1, a_bnd]
  have o1 : Γ1 z = some (6 + 5, 0) := by rw [(f1 z (by omega)).1]; exact o0
  rw [c_pfR o1 (by omega)]
  have t1 : uQ (upS Γ z (6 + 5, 0)) (setF R z (fun _ => 0)) Γ1 (up2 R1 z 0 (z + 1)) z (z + 1) := fun x a b => ⟨(f1 x a).1, by rw [up2_ne b]; exact (f1 x a).2⟩
  have v1 : ∀ x, x ≠ z → up2 R1 z 0 (z + 1) x = R1 x := fun x b => up2_ne b
  have r1 : ∀ i, up2 R1 z 0 (z + 1) z i = if i = 0 then z + 1 else (setF R z (fun _ => 0)) z i := fun i => by rw [up2_if, (f1 z (by omega)).2]
  generalize up2 R1 z 0 (z + 1) = Q1 at *
  obtain ⟨Γ2, R2, e2, f2, b2, s2⟩ := nx_autos (Γ := Γ1) (R := Q1) (z := z + 26) (z' := z + 51) (n := 4) (by omega) (by omega) (by omega)
  rw [e2, a_bnd]
  have o2 : Γ2 z = some (6 + 5, 0) := by rw [(f2 z (by omega)).1]; exact o1
  rw [c_pfR o2 (by omega)]
  have t2 : uQ Γ1 Q1 Γ2 (up2 R2 z 1 (z + 26)) z (z + 26) := fun x a b => ⟨(f2 x a).1, by rw [up2_ne b]; exact (f2 x a).2⟩
  have v2 : ∀ x, x ≠ z → up2 R2 z 1 (z + 26) x = R2 x := fun x b => up2_ne b
  have r2 : ∀ i, up2 R2 z 1 (z + 26) z i = if i = 1 then z + 26 else Q1 z i := fun i => by rw [up2_if, (f2 z (by omega)).2]
  generalize up2 R2 z 1 (z + 26) = Q2 at *
  have o3 := o_upS (z := z + 51) (sh := (0, 4)) o2 (by omega)
  rw [a_nwA (by omega) (by omega), c_pfR o3 (by omega)]
  have t3 : uQ Γ2 Q2 (upS Γ2 (z + 51) (0, 4)) (up2 (setF Q2 (z + 51) (fun _ => 0)) z 2 (z + 51)) z (z + 51) := fun x a b => ⟨upS_ne (by omega), by rw [up2_ne b, setF_ne (by omega)]⟩
  generalize hG3 : (upS Γ2 (z + 51) (0, 4)) = G3 at *
  generalize hQ3 : up2 (setF Q2 (z + 51) (fun _ => 0)) z 2 (z + 51) = Q3 at *
  have a3 : G3 (z + 51) = some (0, 4) := by rw [← hG3]; exact upS_at
  have r3 : ∀ i, Q3 z i = if i = 2 then z + 51 else Q2 z i := fun i => by rw [← hQ3, up2_if, setF_ne (show z ≠ z + 51 by omega)]
  rw [a_pfI o3]
  obtain ⟨Γ4, R4, e4, f4, s4⟩ := nx_X0 (Γ := G3) (R := Q3) (z := z + 52) (n := 12) (by omega) (by omega)
  rw [a_nwO, e4, a_bnd]
  have o4 : Γ4 z = some (6 + 5, 0) := by rw [(f4 z (by omega)).1]; exact o3
  rw [c_pfR o4 (by omega)]
  have t4 : uQ G3 Q3 Γ4 (up2 R4 z 4 (z + 52)) z (z + 52) := fun x a b => ⟨(f4 x a).1, by rw [up2_ne b]; exact (f4 x a).2⟩
  have v4 : ∀ x, x ≠ z → up2 R4 z 4 (z + 52) x = R4 x := fun x b => up2_ne b
  have r4 : ∀ i, up2 R4 z 4 (z + 52) z i = if i = 4 then z + 52 else Q3 z i := fun i => by rw [up2_if, (f4 z (by omega)).2]
  generalize up2 R4 z 4 (z + 52) = Q4 at *
  obtain ⟨Γ5, R5, e5, f5, s5⟩ := nx_X0 (Γ := Γ4) (R := Q4) (z := z + 58) (n := 24) (by omega) (by omega)
  rw [a_nwO, e5, a_bnd]
  have o5 : Γ5 z = some (6 + 5, 0) := by rw [(f5 z (by omega)).1]; exact o4
  rw [c_pfR o5 (by omega)]
  have t5 : uQ Γ4 Q4 Γ5 (up2 R5 z 5 (z + 58)) z (z + 58) := fun x a b => ⟨(f5 x a).1, by rw [up2_ne b]; exact (f5 x a).2⟩
  have v5 : ∀ x, x ≠ z → up2 R5 z 5 (z + 58) x = R5 x := fun x b => up2_ne b
  have r5 : ∀ i, up2 R5 z 5 (z + 58) z i = if i = 5 then z + 58 else Q4 z i := fun i => by rw [up2_if, (f5 z (by omega)).2]
  generalize up2 R5 z 5 (z + 58) = Q5 at *
  obtain ⟨Γ6, R6, e6, f6, s6⟩ := nx_X5 (Γ := Γ5) (R := Q5) (z := z + 64) (by omega)
  rw [a_nwO, e6, a_bnd]
  have o6 : Γ6 z = some (6 + 5, 0) := by rw [(f6 z (by omega)).1]; exact o5
  rw [c_pfR o6 (by omega)]
  have t6 : uQ Γ5 Q5 Γ6 (up2 R6 z 6 (z + 64)) z (z + 64) := fun x a b => ⟨(f6 x a).1, by rw [up2_ne b]; exact (f6 x a).2⟩
  have v6 : ∀ x, x ≠ z → up2 R6 z 6 (z + 64) x = R6 x := fun x b => up2_ne b
  have r6 : ∀ i, up2 R6 z 6 (z + 64) z i = if i = 6 then z + 64 else Q5 z i := fun i => by rw [up2_if, (f6 z (by omega)).2]
  generalize up2 R6 z 6 (z + 64) = Q6 at *
  obtain ⟨Γ7, R7, e7, f7, s7⟩ := nx_X4 (Γ := Γ6) (R := Q6) (z := z + 67) (by omega)
  rw [a_nwO, e7, a_bnd]
  have o7 : Γ7 z = some (6 + 5, 0) := by rw [(f7 z (by omega)).1]; exact o6
  rw [c_pfR o7 (by omega)]
  have t7 : uQ Γ6 Q6 Γ7 (up2 R7 z 7 (z + 67)) z (z + 67) := fun x a b => ⟨(f7 x a).1, by rw [up2_ne b]; exact (f7 x a).2⟩
  have v7 : ∀ x, x ≠ z → up2 R7 z 7 (z + 67) x = R7 x := fun x b => up2_ne b
  have r7 : ∀ i, up2 R7 z 7 (z + 67) z i = if i = 7 then z + 67 else Q6 z i := fun i => by rw [up2_if, (f7 z (by omega)).2]
  generalize up2 R7 z 7 (z + 67) = Q7 at *
  obtain ⟨Γ8, R8, e8, f8, s8⟩ := nx_X1 (Γ := Γ7) (R := Q7) (z := z + 82) (by omega)
  rw [a_nwO, e8, a_bnd]
  have o8 : Γ8 z = some (6 + 5, 0) := by rw [(f8 z (by omega)).1]; exact o7
  rw [c_pfR o8 (by omega)]
  have t8 : uQ Γ7 Q7 Γ8 (up2 R8 z 8 (z + 82)) z (z + 82) := fun x a b => ⟨(f8 x a).1, by rw [up2_ne b]; exact (f8 x a).2⟩
  have v8 : ∀ x, x ≠ z → up2 R8 z 8 (z + 82) x = R8 x := fun x b => up2_ne b
  have r8 : ∀ i, up2 R8 z 8 (z + 82) z i = if i = 8 then z + 82 else Q7 z i := fun i => by rw [up2_if, (f8 z (by omega)).2]
  generalize up2 R8 z 8 (z + 82) = Q8 at *
  obtain ⟨Γ9, R9, e9, f9, s9⟩ := nx_X3 (Γ := Γ8) (R := Q8) (z := z + 213) (by omega)
  rw [a_nwO, e9, a_bnd]
  have o9 : Γ9 z = some (6 + 5, 0) := by rw [(f9 z (by omega)).1]; exact o8
  rw [c_pfR o9 (by omega)]
  have t9 : uQ Γ8 Q8 Γ9 (up2 R9 z 9 (z + 213)) z (z + 213) := fun x a b => ⟨(f9 x a).1, by rw [up2_ne b]; exact (f9 x a).2⟩
  have v9 : ∀ x, x ≠ z → up2 R9 z 9 (z + 213) x = R9 x := fun x b => up2_ne b
  have r9 : ∀ i, up2 R9 z 9 (z + 213) z i = if i = 9 then z + 213 else Q8 z i := fun i => by rw [up2_if, (f9 z (by omega)).2]
  generalize up2 R9 z 9 (z + 213) = Q9 at *
  have o10 := o_upS (z := z + 246) (sh := (0, 43)) o9 (by omega)
  rw [a_nwA (by omega) (by omega), c_pfR o10 (by omega)]
  have t10 : uQ Γ9 Q9 (upS Γ9 (z + 246) (0, 43)) (up2 (setF Q9 (z + 246) (fun _ => 0)) z 10 (z + 246)) z (z + 246) := fun x a b => ⟨upS_ne (by omega), by rw [up2_ne b, setF_ne (by omega)]⟩
  generalize hG10 : (upS Γ9 (z + 246) (0, 43)) = G10 at *
  generalize hQ10 : up2 (setF Q9 (z + 246) (fun _ => 0)) z 10 (z + 246) = Q10 at *
  have a10 : G10 (z + 246) = some (0, 43) := by rw [← hG10]; exact upS_at
  have r10 : ∀ i, Q10 z i = if i = 10 then z + 246 else Q9 z i := fun i => by rw [← hQ10, up2_if, setF_ne (show z ≠ z + 246 by omega)]
  obtain ⟨Γ11, R11, e11, f11, s11⟩ := nx_X2 (Γ := G10) (R := Q10) (z := z + 247) (by omega)
  rw [a_nwO, e11, a_bnd]
  have o11 : Γ11 z = some (6 + 5, 0) := by rw [(f11 z (by omega)).1]; exact o10
  rw [c_pfR o11 (by omega)]
  have t11 : uQ G10 Q10 Γ11 (up2 R11 z 11 (z + 247)) z (z + 247) := fun x a b => ⟨(f11 x a).1, by rw [up2_ne b]; exact (f11 x a).2⟩
  have v11 : ∀ x, x ≠ z → up2 R11 z 11 (z + 247) x = R11 x := fun x b => up2_ne b
  have r11 : ∀ i, up2 R11 z 11 (z + 247) z i = if i = 11 then z + 247 else Q10 z i := fun i => by rw [up2_if, (f11 z (by omega)).2]
  generalize up2 R11 z 11 (z + 247) = Q11 at *
  have w11 : ∀ y, uQ Γ11 Q11 Γ11 Q11 z y := fun y => uQ.refl
  have w10 : uQ G10 Q10 Γ11 Q11 z (z + 247) := t11.trans (w11 (z + 247)) (by omega)
  have w9 : uQ Γ9 Q9 Γ11 Q11 z (z + 246) := t10.trans w10 (by omega)
  have w8 : uQ Γ8 Q8 Γ11 Q11 z (z + 213) := t9.trans w9 (by omega)
  have w7 : uQ Γ7 Q7 Γ11 Q11 z (z + 82) := t8.trans w8 (by omega)
  have w6 : uQ Γ6 Q6 Γ11 Q11 z (z + 67) := t7.trans w7 (by omega)
  have w5 : uQ Γ5 Q5 Γ11 Q11 z (z + 64) := t6.trans w6 (by omega)
  have w4 : uQ Γ4 Q4 Γ11 Q11 z (z + 58) := t5.trans w5 (by omega)
  have w3 : uQ G3 Q3 Γ11 Q11 z (z + 52) := t4.trans w4 (by omega)
  have w2 : uQ Γ2 Q2 Γ11 Q11 z (z + 51) := t3.trans w3 (by omega)
  have w1 : uQ Γ1 Q1 Γ11 Q11 z (z + 26) := t2.trans w2 (by omega)
  have w0 : uQ (upS Γ z (6 + 5, 0)) (setF R z (fun _ => 0)) Γ11 Q11 z (z + 1) := t1.trans w1 (by omega)
  have rz : ∀ i, Q11 z i = if i = 11 then z + 247 else if i = 10 then z + 246 else if i = 9 then z + 213 else if i = 8 then z + 82 else if i = 7 then z + 67 else if i = 6 then z + 64 else if i = 5 then z + 58 else if i = 4 then z + 52 else if i = 2 then z + 51 else if i = 1 then z + 26 else if i = 0 then z + 1 else 0 := fun i => by rw [r11, r10, r9, r8, r7, r6, r5, r4, r3, r2, r1, setF_at]
  refine ⟨Γ11, Q11, rfl, fun x hx => ⟨(w0 x (by omega) (by omega)).1.trans (upS_ne (by omega)), (w0 x (by omega) (by omega)).2.trans (setF_ne (by omega))⟩, ?_⟩
  exact ⟨⟨⟨o11, hz⟩, ⟨(by rw [(w1 (z + 1) (by omega) (by omega)).1]; exact b1), (by rw [(w2 (z + 26) (by omega) (by omega)).1]; exact b2), (by rw [(w3 (z + 51) (by omega) (by omega)).1]; exact a3)⟩, ⟨by rw [rz]; rfl, by rw [rz]; rfl, by rw [rz]; rfl⟩, fun k hk => ⟨(by rw [(w1 (z + 1) (by omega) (by omega)).2, v1 _ (by omega)]; exact (s1 k hk).1), ((s1 k hk).2.uf (fun x a b => ⟨(w1 x (by omega) (by omega)).1, by rw [(w1 x (by omega) (by omega)).2, v1 x (by omega)]⟩))⟩, fun k hk => ((s2 k hk).2.uf (fun x a b => ⟨(w2 x (by omega) (by omega)).1, by rw [(w2 x (by omega) (by omega)).2, v2 x (by omega)]⟩)), fun k => k, fun k hk => ⟨hk, (by rw [(w2 (z + 26) (by omega) (by omega)).2, v2 _ (by omega)]; exact (s2 k hk).1)⟩, fun k k' _ _ h => h⟩, ⟨by rw [rz]; rfl, (s4.uf (fun x a b => ⟨(w4 x (by omega) (by omega)).1, by rw [(w4 x (by omega) (by omega)).2, v4 x (by omega)]⟩))⟩, ⟨by rw [rz]; rfl, (s5.uf (fun x a b => ⟨(w5 x (by omega) (by omega)).1, by rw [(w5 x (by omega) (by omega)).2, v5 x (by omega)]⟩))⟩, ⟨by rw [rz]; rfl, _, _, (s6.uf (fun x a b => ⟨(w6 x (by omega) (by omega)).1, by rw [(w6 x (by omega) (by omega)).2, v6 x (by omega)]⟩))⟩, ⟨by rw [rz]; rfl, (s7.uf (fun x a b => ⟨(w7 x (by omega) (by omega)).1, by rw [(w7 x (by omega) (by omega)).2, v7 x (by omega)]⟩))⟩, ⟨by rw [rz]; rfl, (s8.uf (fun x a b => ⟨(w8 x (by omega) (by omega)).1, by rw [(w8 x (by omega) (by omega)).2, v8 x (by omega)]⟩))⟩, ⟨by rw [rz]; rfl, _, (s9.uf (fun x a b => ⟨(w9 x (by omega) (by omega)).1, by rw [(w9 x (by omega) (by omega)).2, v9 x (by omega)]⟩))⟩, ⟨by rw [rz]; rfl, (by rw [(w10 (z + 246) (by omega) (by omega)).1]; exact a10)⟩, by rw [rz]; rfl, (s11.uf (fun x a b => ⟨((w11 (z + 100000)) x (by omega) (by omega)).1, by rw [((w11 (z + 100000)) x (by omega) (by omega)).2, v11 x (by omega)]⟩))⟩
end MA
