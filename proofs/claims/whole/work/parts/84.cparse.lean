/-! ===== the class: parse ===== -/
noncomputable def rParse (S : tS) (x : Int32) : Rs := if inR x 0 3 then (if fnz (bdT S.2.2) S.2.1 < S.2.1 then (0, -10 - nI (fnz (bdT S.2.2) S.2.1), S) else if (syT S.2.2 S.2.1).2.2 = 1 ∧ (syT S.2.2 S.2.1).1 = 0 then (if (fnV S.2.2 S.2.1).1 = 0 then (0, nI ((fnV S.2.2 S.2.1).2.2.2.2.2 0).1, tsv S (ix x) ((fnV S.2.2 S.2.1).2.2.2.2.2 0)) else (0, -2, S)) else (0, -10 - nI S.2.1, S)) else (1, 0, S)
theorem nI_nn1 {n : Nat} (h : n < 2147483648) : ¬ nI n = (-1 : Int32) := fun u => by
  have h1 : (nI n).toInt = (-1 : Int32).toInt := by rw [u]
  rw [nI_toInt h] at h1
  have h2 : (-1 : Int32).toInt = -1 := by decide
  omega
theorem fnV_I {t : Nat → Nat} {n : Nat} (h : ∀ i, i < n → bdT t i = 0) : vI (fnV t n) := by
  obtain ⟨_, _, _, hI, _⟩ := sInv_all n h
  unfold fnV
  by_cases e : (vlT t n).1 = 0
  · rw [if_pos e]; exact cl2_I hI
  · rw [if_neg e]; exact hI
section CPA
variable {Γ : zSh} {N N' R : Mem} {J : Nat → Nat → Int64} {o q : Nat} {S : tS} {x : Int32} {cd : Nat → Nat}
theorem KX.of {N0 : Mem} {y : Option ((Int32 × zSt) ⊕ (Nat × zSt))} {r : Rs} (h : KX Γ N R J o cd y r) (f : frA N0 N o (o + 373)) : KX Γ N0 R J o cd y r := by
  obtain ⟨N', R', h1, h2, h3, h4, h5⟩ := h
  exact ⟨N', R', h1, h2, h3, f.trans h4, h5⟩
theorem KI.expr (hK : KI Γ N R o S) (hI : tI S) (h : cEf N N' (o + 247) (o + 82)) (hz : cSz N' (o + 247)) : KI Γ N' R o S := by
  obtain ⟨h1, h2, h3, h4, h5⟩ := hK
  refine ⟨h1, h2.fr h1.1 hI.1.1 (fun x a b => h.1 x (by omega) (by omega)) rfl, by rw [h.2.1 1 (by omega)]; exact h3, fun i hi => by rw [show o + 248 = o + 247 + 1 from rfl, h.2.2]; exact h4 i hi, fun k hk => hz k hk⟩
theorem c_parse (hK : KI Γ N R o S) (hI : tI S) : KX Γ N R J o cdA (f_X6_parse Γ o x (cS N R J)) (rParse S x) := by
  unfold f_X6_parse rParse
  refine kx_slot rfl hK hI rfl (fun e => ?_)
  obtain ⟨e1, _, e2⟩ := ix_of e (by omega) (by omega)
  generalize ix x = q at *
  subst e1
  obtain ⟨⟨a1, a2, a3, a4, _⟩, _⟩ := hK.slot hI (q := q) (by omega)
  obtain ⟨p1, p2⟩ := hK.1.2.2.2.2.2.1
  obtain ⟨m1, m2⟩ := hK.1.2.1
  obtain ⟨x1, he⟩ := hK.1.2.2.2.2.2.2.2.2
  have h60 := hI.2.1
  have hfl := fnz_le (f := bdT S.2.2) S.2.1
  have hs := k_syn (J := J) he hK.2.2.1 h60 (fun i hi => hK.2.2.2.1 i hi) hI.2.2
  rw [c_gfR a1 x1 (by omega), c_chkO he.1.1, hs, c_bnd]
  by_cases e3 : fnz (bdT S.2.2) S.2.1 < S.2.1
  · rw [if_pos e3, if_pos e3, if_neg (nI_nn1 (by omega))]
    exact kx_read hK hI frA.refl rfl
  rw [if_neg e3, if_neg e3]
  by_cases e4 : (syT S.2.2 S.2.1).2.2 = 1 ∧ (syT S.2.2 S.2.1).1 = 0
  · have hall := fnz_all (f := bdT S.2.2) (n := S.2.1) (by omega)
    have hvI := fnV_I hall
    rw [if_pos e4, if_pos e4, if_pos rfl, c_gfR a1 x1 (by omega), c_gfR a1 p1 (by omega), c_chkO he.1.1]
    obtain ⟨N1, r, t0, t1, t2, t3⟩ := k_eval (J := J) he p2 (by omega) (fun k hk => hK.2.2.2.2 k hk) hK.2.2.1 h60 (fun i hi => hK.2.2.2.1 i hi) hI.2.2 hall e4.1 e4.2
    rw [t0, c_bnd]
    have hK1 := hK.expr hI t1 t2
    have f1 : frA N N1 o (o + 373) := fun x hx => t1.1 x (by omega) (by omega)
    rcases t3 with ⟨v0, rfl, hA⟩ | ⟨v1, rfl⟩
    · obtain ⟨_, ⟨_, z2, _⟩, ⟨_, g2, _⟩, hk, _⟩ := id he
      obtain ⟨q1, s1, _, _⟩ := hk 0 (by omega)
      have hA12 := (hvI.2 0).2
      obtain ⟨N2, u0, u1, u2⟩ := s_copy (J := J) m2 s1 (by omega) hA hA12.2 hA12.2
      rw [if_neg m1n0, if_pos v0, c_gfR a1 m1 (by omega), c_gfR a1 x1 (by omega), c_gfR he.1.1 z2 (by omega), L0, c_ldA g2 q1 (by omega) (by omega) (by omega), c_chkO m2.ob, show f_X0_copyFrom Γ (o + 52) (o + 247 + 3 + 6 * 0) (cS N1 R J) = _ from u0, c_bnd]
      exact (kx_store hK1 hI (by omega) (u1.mono (by omega) (by omega)) u2 hA12.1 hA12.2 rfl).of f1
    · rw [if_pos m0e, if_neg v1]
      exact kx_ok rfl hK1 hI f1 frA.refl
  · rw [if_neg e4, if_neg e4, if_neg (nI_nn1 (by omega))]
    exact kx_read hK hI frA.refl rfl
end CPA
