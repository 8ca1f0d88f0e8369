/-! ===== the law's loop: one call of both ===== -/
def yLI (Γ : zSh) (N R : Mem) (o : Nat) (S : tS) : Prop := KI Γ N R o S ∧ MI Γ N R (o + 373) S ∧ tI S ∧ Γ (o + 390) = some (2, 1)
abbrev yLT : Type := Option ((Int32 × zSt) ⊕ ((zSt) ⊕ (Int32 × zSt)))
def yLP (Γ : zSh) (o i : Nat) (y : yLT) : Prop := ∃ (N' R' : Mem) (J' : Nat → Nat → Int64) (S' : tS), y = some (.inl (nI (i + 6), cS N' R' J')) ∧ yLI Γ N' R' o S'
def yKL (Γ : zSh) (N R : Mem) (o : Nat) (x : Option (Int32 × zSt)) (res : Rs) : Prop := ∃ (N' R' : Mem) (J' : Nat → Nat → Int64), x = some (nI res.1, cS N' R' J') ∧ KI Γ N' R' o res.2.2 ∧ tI res.2.2 ∧ frA N N' o (o + 373) ∧ frA R R' o (o + 373) ∧ (res.1 = 0 → J' (o + 390) 0 = res.2.1.toInt64)
section LAW
variable {Γ : zSh} {N N' R R' : Mem} {J : Nat → Nat → Int64} {o i : Nat} {S : tS} {res : Rs} {cd : Nat → Nat} {xs : Nat → Int32} {L b : Nat}
theorem KI.mfr (h : KI Γ N R o S) (hI : tI S) (f : frA N N' (o + 373) (o + 390)) : KI Γ N' R o S := ⟨h.1, h.2.1.fr h.1.1 hI.1.1 (fun x a b => f x (by omega)) rfl, by rw [f _ (by omega)]; exact h.2.2.1, fun i hi => by rw [f _ (by omega)]; exact h.2.2.2.1 i hi, fun k hk => by rw [f _ (by omega)]; exact h.2.2.2.2 k hk⟩
theorem MI.kfr (h : MI Γ N R (o + 373) S) (f : frA N N' o (o + 373)) (g : frA R R' o (o + 373)) : MI Γ N' R' (o + 373) S := by
  obtain ⟨⟨a1, a2⟩, ⟨b1, b2, b3⟩, c1, c2⟩ := h
  refine ⟨⟨a1, fun i k t n hm => by rw [g (o + 373) (by omega)]; exact a2 i k t n hm⟩, ⟨by rw [f _ (by omega)]; exact b1, fun q hq => (b2 q hq).eq (f _ (by omega)), fun k q hk hq => ?_⟩, by rw [f _ (by omega)]; exact c1, fun i hi => by rw [f _ (by omega)]; exact c2 i hi⟩
  have := b3 k q hk hq
  unfold mSn at this ⊢
  rw [f _ (by omega)]
  exact this
theorem c_scI {β : Type} {k : Nat} (hk : k < L) (hL : L ≤ 100000) {f : Int32 → Option β} : scI xs b L b (nI k) f = f (xs k) := by
  unfold scI
  rw [if_pos ⟨rfl, c_inb hk hL⟩, nI_clamp (by omega)]
theorem kl_of {x : Option ((Int32 × zSt) ⊕ (Nat × zSt))} {f : Int32 → zSt → Option (Int32 × zSt)} {hd : Nat → zSt → Option (Int32 × zSt)} (hL : yLI Γ N R o S) (h : KX Γ N R J o cd x res) (hf : ∀ σ, res.1 = 0 → f res.2.1 σ = stL Γ σ (o + 390) 0 (res.2.1.toInt64) fun σ3 => some (0, σ3)) (hh : ∀ σ, res.1 ≠ 0 → hd (cd res.1) σ = some (nI res.1, σ)) : yKL Γ N R o (chk (isO Γ o 6) <| xcat x f hd) res := by
  obtain ⟨N1, R1, e, h1, h2, h3, h4⟩ := h
  rw [c_chkO hL.1.1.1.1.1, e]
  by_cases e0 : res.1 = 0
  · rw [if_pos e0]
    refine ⟨N1, R1, up2 J (o + 390) 0 res.2.1.toInt64, ?_, h1, h2, h3, h4, fun _ => up2_at⟩
    show f res.2.1 (cS N1 R1 J) = _
    rw [hf _ e0, e0, L0, c_stL hL.2.2.2 (by omega) (by omega)]
  · rw [if_neg e0]
    exact ⟨N1, R1, J, hh _ e0, h1, h2, h3, h4, fun u => absurd u e0⟩
theorem law_end {y : Option (Int32 × zSt)} {k : Int32 → zSt → yLT} (hL : yLI Γ N R o S) {J' : Nat → Nat → Int64} (hm : MX Γ N' R' J' (o + 373) y res) (h1 : KI Γ N' R' o res.2.2) (h2 : tI res.2.2) (hk : ∀ N2 v J2, yLI Γ N2 R' o res.2.2 → N2 (o + 373) 3 = res.1 → (res.1 = 0 → v = res.2.1) → J2 (o + 390) = J' (o + 390) → yLP Γ o i (k v (cS N2 R' J2))) : yLP Γ o i (bnd y k) := by
  obtain ⟨N2, J2, v, e, m1, m2, m3, m4, m5⟩ := hm
  rw [e]
  exact hk N2 v J2 ⟨h1.mfr h2 m2, m1, h2, hL.2.2.2⟩ m3 m4 (m5 _ (by omega))
theorem law_case {x : Option (Int32 × zSt)} {y : zSt → Option (Int32 × zSt)} {K B : zSt → yLT} (hL : yLI Γ N R o S) (hx : yKL Γ N R o x res) (hr : res.1 < 4) (hy : ∀ N' R' J', MI Γ N' R' (o + 373) S → MX Γ N' R' J' (o + 373) (y (cS N' R' J')) res) (hK : ∀ σ, K σ = some (.inl (nI (i + 6), σ))) : yLP Γ o i (bnd x fun r6 σ5 => chk (isO Γ (o + 373) 7) <| bnd (y σ5) fun r10 σ9 => chk (isO Γ (o + 373) 7) <| bnd (f_X7_thrown Γ (o + 373) σ9) fun r12 σ11 => if r12 = r6 then (if r6 = 0 then (ldL Γ σ11 (o + 390) 0 fun v13 => if (lg_cmp v13 (r10.toInt64)) = 0 then K σ11 else B σ11) else K σ11) else B σ11) := by
  obtain ⟨N1, R1, J1, e, h1, h2, h3, h4, h5⟩ := hx
  have ho : Γ (o + 373) = some (7 + 5, 0) := hL.2.1.1.ob
  rw [e, c_bnd, c_chkO ho]
  refine law_end hL (hy N1 R1 J1 (hL.2.1.kfr h3 h4)) h1 h2 ?_
  intro N2 v J2 g1 g2 g3 g4
  rw [c_chkO ho]
  unfold f_X7_thrown
  rw [c_gfI ho, g2, c_bnd, if_pos rfl]
  have fin : yLP Γ o i (K (cS N2 R1 J2)) := ⟨N2, R1, J2, res.2.2, hK _, g1⟩
  by_cases e0 : res.1 = 0
  · rw [e0, if_pos m0e, show ∀ f : Int64 → yLT, ldL Γ (cS N2 R1 J2) (o + 390) 0 f = f (J2 (o + 390) 0) from fun f => c_ldL (i := 0) hL.2.2.2 (by omega) (by omega), g4, h5 e0, g3 e0, if_pos ((lg_cmp_eq _ _).mpr rfl)]
    exact fin
  · rw [if_neg (show ¬ nI res.1 = 0 from fun u => e0 ((nI_eq (b := 0) (by omega) (by omega)).mp u))]
    exact fin
/-- the law's recurs -/
theorem law_recurs {x : Option (Int32 × zSt)} {y : zSt → Option (Int32 × zSt)} {K : zSt → yLT} {B : zSt → yLT} {C : Int64 → Int64 → zSt → yLT} (hL : yLI Γ N R o S) (hx : yKL Γ N R o x res) (hr : res.1 < 4) (h01 : res.2.1 = 0 ∨ res.2.1 = 1) (hy : ∀ N' R' J', MI Γ N' R' (o + 373) S → MX Γ N' R' J' (o + 373) (y (cS N' R' J')) res) (hK : ∀ σ, K σ = some (.inl (nI (i + 6), σ))) (hC : ∀ a σ, C a a σ = K σ) : yLP Γ o i (bnd x fun r6 σ5 => chk (isO Γ (o + 373) 7) <| bnd (y σ5) fun r10 σ9 => chk (isO Γ (o + 373) 7) <| bnd (f_X7_thrown Γ (o + 373) σ9) fun r12 σ11 => if r12 = r6 then (if r6 = 0 then (ldL Γ σ11 (o + 390) 0 fun v13 => if r10 = 0 then C 0 v13 σ11 else C 1 v13 σ11) else K σ11) else B σ11) := by
  obtain ⟨N1, R1, J1, e, h1, h2, h3, h4, h5⟩ := hx
  have ho : Γ (o + 373) = some (7 + 5, 0) := hL.2.1.1.ob
  rw [e, c_bnd, c_chkO ho]
  refine law_end hL (hy N1 R1 J1 (hL.2.1.kfr h3 h4)) h1 h2 ?_
  intro N2 v J2 g1 g2 g3 g4
  rw [c_chkO ho]
  unfold f_X7_thrown
  rw [c_gfI ho, g2, c_bnd, if_pos rfl]
  have fin : yLP Γ o i (K (cS N2 R1 J2)) := ⟨N2, R1, J2, res.2.2, hK _, g1⟩
  by_cases e0 : res.1 = 0
  · rw [e0, if_pos m0e, show ∀ f : Int64 → yLT, ldL Γ (cS N2 R1 J2) (o + 390) 0 f = f (J2 (o + 390) 0) from fun f => c_ldL (i := 0) hL.2.2.2 (by omega) (by omega), g4, h5 e0, g3 e0]
    rcases h01 with u | u
    · rw [u, if_pos rfl, show (0 : Int32).toInt64 = 0 from by decide, hC]
      exact fin
    · rw [u, if_neg (by decide), show (1 : Int32).toInt64 = 1 from by decide, hC]
      exact fin
  · rw [if_neg (show ¬ nI res.1 = 0 from fun u => e0 ((nI_eq (b := 0) (by omega) (by omega)).mp u))]
    exact fin
theorem law_clear {K B : zSt → yLT} (hL : yLI Γ N R o S) (hK : ∀ σ, K σ = some (.inl (nI (i + 6), σ))) : yLP Γ o i (chk (isO Γ o 6) <| bnd (f_X6_clearText Γ o (cS N R J)) fun r264 σ263 => chk (isO Γ (o + 373) 7) <| bnd (f_X7_clearText Γ (o + 373) σ263) fun r266 σ265 => if r264 = r266 then K σ265 else B σ265) := by
  obtain ⟨hK1, hM, hI, h3⟩ := hL
  obtain ⟨N1, e1, k1, k2, k3⟩ := c_clearT (J := J) hK1 hI
  obtain ⟨N2, e2, m1, m2⟩ := m_clearT (J := J) (hM.kfr k3 (R' := R) frA.refl)
  rw [c_chkO hK1.1.1.1.1, e1, c_bnd, c_chkO hM.1.ob, e2, c_bnd, if_pos rfl, hK]
  exact ⟨N2, R, J, _, rfl, k1.mfr k2 m2, m1, k2, h3⟩
theorem law_digest {K B : zSt → yLT} (hL : yLI Γ N R o S) (hK : ∀ σ, K σ = some (.inl (nI (i + 6), σ))) : yLP Γ o i (chk (isO Γ o 6) <| bnd (f_X6_digest Γ o (cS N R J)) fun r284 σ283 => chk (isO Γ (o + 373) 7) <| bnd (f_X7_digest Γ (o + 373) σ283) fun r286 σ285 => if (lg_cmp r284 r286) = 0 then K σ285 else B σ285) := by
  obtain ⟨hK1, hM, hI, h3⟩ := hL
  obtain ⟨N1, e1, k1⟩ := c_digest (J := J) hK1 hI
  obtain ⟨N2, e2, m1, m2⟩ := m_digest (J := J) (hM.kfr (k1.mono (by omega) (by omega)) (R' := R) frA.refl) hI
  rw [c_chkO hK1.1.1.1.1, e1, c_bnd, c_chkO hM.1.ob, e2, c_bnd, if_pos ((lg_cmp_eq _ _).mpr rfl), hK]
  exact ⟨N2, R, J, S, rfl, (hK1.work hI k1).mfr hI m2, m1, hI, h3⟩
end LAW
