/-! ===== the law answers true ===== -/
section TRU
variable {Γ Γ' : zSh} {R R' : Mem} {o p : Nat}
theorem cSh.uf (h : cSh Γ R o) (f : ∀ x, o ≤ x → x < o + 52 → Γ' x = Γ x ∧ R' x = R x) : cSh Γ' R' o := by
  obtain ⟨⟨h1, h0⟩, ⟨g1, g2, g3⟩, h3, h4, h5, g, k1, k2⟩ := h
  refine ⟨⟨by rw [(f o (by omega) (by omega)).1]; exact h1, h0⟩, ⟨by rw [(f (o + 1) (by omega) (by omega)).1]; exact g1, by rw [(f (o + 26) (by omega) (by omega)).1]; exact g2, by rw [(f (o + 51) (by omega) (by omega)).1]; exact g3⟩, by rw [(f o (by omega) (by omega)).2]; exact h3, fun q hq => ⟨?_, (h4 q hq).2.uf (fun x a b => f x (by omega) (by omega))⟩, fun j hj => (h5 j hj).uf (fun x a b => f x (by omega) (by omega)), g, fun k hk => ?_, k2⟩
  · rw [(f (o + 1) (by omega) (by omega)).2]
    exact (h4 q hq).1
  · rw [(f (o + 26) (by omega) (by omega)).2]
    exact k1 k hk
theorem kSh.uf (h : kSh Γ R o) (f : ∀ x, o ≤ x → x < o + 373 → Γ' x = Γ x ∧ R' x = R x) : kSh Γ' R' o := by
  obtain ⟨hc, ⟨s1, s2⟩, ⟨d1, d2⟩, ⟨w1, u, u', w2⟩, ⟨p1, p2⟩, ⟨b1, b2⟩, ⟨g1, π, g2⟩, ⟨t1, t2⟩, e1, e2⟩ := h
  have fo : R' o = R o := (f o (by omega) (by omega)).2
  rw [← fo] at s1 d1 w1 p1 b1 g1 t1 e1
  exact ⟨hc.uf (fun x a b => f x a (by omega)), ⟨s1, s2.uf (fun x a b => f x (by omega) (by omega))⟩, ⟨d1, d2.uf (fun x a b => f x (by omega) (by omega))⟩, ⟨w1, u, u', w2.uf (fun x a b => f x (by omega) (by omega))⟩, ⟨p1, p2.uf (fun x a b => f x (by omega) (by omega))⟩, ⟨b1, b2.uf (fun x a b => f x (by omega) (by omega))⟩, ⟨g1, π, g2.uf (fun x a b => f x (by omega) (by omega))⟩, ⟨t1, by rw [(f (o + 246) (by omega) (by omega)).1]; exact t2⟩, e1, e2.uf (fun x a b => f x (by omega) (by omega))⟩
theorem mS.uf (h : mS Γ R p) (f : ∀ x, p ≤ x → x < p + 17 → Γ' x = Γ x ∧ R' x = R x) : mS Γ' R' p := by
  obtain ⟨h1, h3⟩ := h
  refine ⟨by rw [(f p (by omega) (by omega)).1]; exact h1, fun i k t n hm => ?_⟩
  have hk : k ≤ 16 := by
    have : ∀ q ∈ [(0, 1, 0, 8138), (1, 2, 0, 5008), (5, 3, 0, 24), (6, 4, 0, 24), (7, 5, 0, 576), (8, 6, 0, 576), (9, 7, 0, 576), (10, 8, 0, 24), (11, 9, 0, 24), (13, 10, 0, 24), (14, 11, 0, 24), (15, 12, 0, 1024), (16, 13, 0, 43), (17, 14, 0, 60), (23, 15, 1, 9), (24, 16, 1, 9)], q.2.1 ≤ 16 := by decide
    exact this _ hm
  rw [(f (p + k) (by omega) (by omega)).1, (f p (by omega) (by omega)).2]
  exact h3 i k t n hm
def S0 : tS := ((0, fun _ _ => zerA 0, fun _ => 0), 0, fun _ => 0)
theorem S0_I : tI S0 := ⟨⟨Nat.zero_le _, fun _ _ _ _ => ⟨zerA_ok, Nat.zero_le _⟩, fun k hk => absurd hk (Nat.not_lt_zero k)⟩, Nat.zero_le _, fun i hi => absurd hi (Nat.not_lt_zero i)⟩
theorem li0 (h : kSh Γ R o) (hm : mS Γ R (o + 373)) (h3 : Γ (o + 390) = some (2, 1)) : yLI Γ N0 R o S0 := by
  refine ⟨⟨h, ⟨rfl, fun q hq => ⟨rfl, fun i hi => absurd hi (Nat.not_lt_zero i)⟩, fun k hk => absurd hk (Nat.not_lt_zero k)⟩, rfl, fun i hi => absurd hi (Nat.not_lt_zero i), fun k hk => Nat.zero_le _⟩, ⟨hm, ⟨rfl, fun q hq => ⟨rfl, fun i hi => absurd hi (Nat.not_lt_zero i)⟩, fun k q hk => absurd hk (Nat.not_lt_zero k)⟩, rfl, fun i hi => absurd hi (Nat.not_lt_zero i)⟩, S0_I, h3⟩
theorem law_true {xs : Nat → Int32} {L b z : Nat} (hL : L ≤ 3072) (hb : b < z) : f_law xs L b z = some () := by
  have hz : z ≠ 0 := by omega
  unfold f_law
  rw [show ((fun _ _ => 0, fun _ _ => 0, fun _ _ => 0) : zSt) = cS N0 (fun _ _ => 0) J0 from rfl]
  obtain ⟨Γ1, R1, e1, f1, k1⟩ := nx_X6 (Γ := fun _ => none) (R := fun _ _ => 0) (z := z) hz
  obtain ⟨Γ2, R2, e2, f2, k2⟩ := nx_X7 (Γ := Γ1) (R := R1) (z := z + 373) (by omega)
  rw [a_nwO, e1, a_bnd, a_nwO, e2, a_bnd, L1, a_nwA (by omega) (by omega)]
  have hLI : yLI (upS Γ2 (z + 373 + 17) (2, 1)) N0 (setF R2 (z + 373 + 17) (fun _ => 0)) z S0 := by
    refine li0 (k1.uf (fun x a c => ⟨?_, ?_⟩)) (k2.uf (fun x a c => ⟨upS_ne (by omega), setF_ne (by omega)⟩)) upS_at
    · rw [upS_ne (by omega)]; exact (f2 x (by omega)).1
    · rw [setF_ne (by omega)]; exact (f2 x (by omega)).2
  obtain ⟨σ', e3⟩ := law_loop (J := J0) (xs := xs) (b := b) hLI hL
  rw [show loopM (fun q => f_L_law_B23 xs L b (upS Γ2 (z + 373 + 17) (2, 1)) b z (z + 373) (z + 373 + 17) q.1 q.2) 513 (0, cS N0 (setF R2 (z + 373 + 17) (fun _ => 0)) J0) = some (.inl σ') from e3]
end TRU
