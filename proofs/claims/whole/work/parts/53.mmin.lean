/-! ===== the model: minimizes, dimensionOf, combines, derives ===== -/
/-- the pool keeps all cells outside two ranges -/
def kp (N N' : Mem) (p lo hi lo2 hi2 : Nat) : Prop := ∀ z, z < lo ∨ hi ≤ z → z < lo2 ∨ hi2 ≤ z → N' (p + 1) z = N (p + 1) z
theorem kp.au {N N' : Mem} {p q lo hi lo2 hi2 : Nat} {A : Au} (h : kp N N' p lo hi lo2 hi2) (hA : mAu N p q A) (h12 : A.1 ≤ 12) (d : 313 * q + 313 ≤ lo ∨ hi ≤ 313 * q) (d2 : 313 * q + 313 ≤ lo2 ∨ hi2 ≤ 313 * q) : mAu N' p q A := by
  refine ⟨by rw [h _ (by omega) (by omega)]; exact hA.1, fun i hi => ⟨?_, ?_, fun j l hj hl => ?_⟩⟩
  · rw [h _ (by omega) (by omega)]; exact (hA.2 i hi).1
  · rw [h _ (by omega) (by omega)]; exact (hA.2 i hi).2.1
  · rw [h _ (by omega) (by omega)]; exact (hA.2 i hi).2.2 j l hj hl
noncomputable def dimV (X : Au) (kind : Nat) : Nat := if kind = 0 then (expl X).1 else if kind = 1 then (expl (revA X)).1 else (minA X).1
def comA (X Y : Au) (kind : Nat) : Au := if kind = 0 then sumA X Y else if kind = 1 then hadA X Y else cauA X Y
theorem comA_ok {X Y : Au} {kind : Nat} (hX : okA X) (hY : okA Y) : okA (comA X Y kind) := by
  unfold comA
  by_cases e : kind = 0
  · rw [if_pos e]; exact sumA_ok hX hY
  · rw [if_neg e]
    by_cases e2 : kind = 1
    · rw [if_pos e2]; exact hadA_ok
    · rw [if_neg e2]; exact cauA_ok hX hY
theorem comA_n {X Y : Au} {kind : Nat} : (comA X Y kind).1 = if kind = 1 then X.1 * Y.1 else X.1 + Y.1 := by
  unfold comA
  by_cases e : kind = 0
  · rw [if_pos e, if_neg (by omega)]; rfl
  · rw [if_neg e]
    by_cases e2 : kind = 1
    · rw [if_pos e2, if_pos e2]; rfl
    · rw [if_neg e2, if_neg e2]; rfl
section MG
variable {Γ : zSh} {N : Mem} {R : Mem} {J : Nat → Nat → Int64} {p q x y l : Nat} {X Y A : Au}
theorem m_minimizes (h : mS Γ R p) (hx : x < 26) (hq : q < 26) (hx7 : x ≠ 7) (hq7 : q ≠ 7) (hX : mAu N p x X) (hX12 : X.1 ≤ 12) (ok : okA X) : Mx (f_X7_minimizes Γ p (nI x) (nI q) (cS N R J)) (fun σ => ((), σ)) R J (fun N' => frF N N' p ∧ kp N N' p 1878 2504 (313 * q) (313 * q + 313) ∧ mAu N' p q (minA X)) := by
  have o1 := redA_ok ok
  have n1 : (redA X).1 ≤ 12 := Nat.le_trans (redA_le ok) hX12
  have n2 : (revA (redA X)).1 ≤ 12 := n1
  have o2 := revA_ok o1
  have o3 := redA_ok o2
  have n3 : (redA (revA (redA X))).1 ≤ 12 := Nat.le_trans (redA_le o2) n2
  unfold f_X7_minimizes
  rw [c_chkO h.ob, L7, L6]
  refine mx_bnd (m_forwards h hx (q := 7) (by omega) hx7 hX hX12 ok) ?_
  intro N1 ⟨a1, a2, a3⟩
  rw [c_chkO h.ob]
  refine mx_bnd (m_turns h (x := 7) (q := 6) (by omega) (by omega) (by omega) a3 n1) ?_
  intro N2 ⟨b1, b2⟩
  rw [c_chkO h.ob]
  refine mx_bnd (m_forwards h (x := 6) (q := 7) (by omega) (by omega) (by omega) b2 n2 o2) ?_
  intro N3 ⟨c1, c2, c3⟩
  rw [c_chkO h.ob]
  refine mx_bnd (m_turns h (x := 7) (by omega) hq (Ne.symm hq7) c3 n3) ?_
  intro N4 ⟨d1, d2⟩
  exact mx_eq rfl ⟨a1.trans (b1.toF.trans (c1.trans d1.toF)), fun z e1 e2 => by rw [d1.2 z e2, c2 z (by omega), b1.2 z (by omega), a2 z (by omega)], d2⟩
theorem m_dim (h : mS Γ R p) (hx : x < 5) (hX : mAu N p x X) (hX12 : X.1 ≤ 12) (ok : okA X) {kind : Nat} (hk : kind < 3) : Mx (f_X7_dimensionOf Γ p (nI x) (nI kind) (cS N R J)) (fun σ => (nI (dimV X kind), σ)) R J (fun N' => frF N N' p ∧ kp N N' p 1565 2504 0 0) := by
  have hsp : ∀ N' y Y, y < 26 → mAu N' p y Y → Y.1 ≤ 12 → okA Y → spS N' p y (-1) Y Y := fun N' y Y hy a b c => ⟨hy, a, b, c, Or.inl ⟨rfl, rfl⟩⟩
  unfold f_X7_dimensionOf dimV
  rw [L0, L1]
  by_cases e : kind = 0
  · rw [ieq_t e, if_pos e, c_chkO h.ob]
    refine mx_bnd (m_spans h (hsp N x X (by omega) hX hX12 ok)) ?_
    intro N1 ⟨r1, r2⟩
    rw [c_gfI h.ob, r2.1]
    exact mx_eq rfl ⟨r1.toF, fun z _ _ => by rw [r1.pool]⟩
  · rw [ieq_f e (by omega) (by omega), if_neg e]
    by_cases e2 : kind = 1
    · rw [ieq_t e2, if_pos e2, c_chkO h.ob, L6]
      refine mx_bnd (m_turns h (q := 6) (by omega) (by omega) (by omega) hX hX12) ?_
      intro N1 ⟨r1, r2⟩
      rw [c_chkO h.ob]
      refine mx_bnd (m_spans h (hsp N1 6 (revA X) (by omega) r2 hX12 (revA_ok ok))) ?_
      intro N2 ⟨s1, s2⟩
      rw [c_gfI h.ob, s2.1]
      exact mx_eq rfl ⟨r1.toF.trans s1.toF, fun z e1 _ => by rw [s1.pool, r1.2 z (by omega)]⟩
    · rw [ieq_f e2 (by omega) (by omega), if_neg e2, c_chkO h.ob, L5]
      refine mx_bnd (m_minimizes h (q := 5) (by omega) (by omega) (by omega) (by omega) hX hX12 ok) ?_
      intro N1 ⟨r1, r2, r3⟩
      rw [c_chkO h.ob, m_many h (by omega), r3.1, c_bnd]
      exact mx_eq rfl ⟨r1, fun z e1 _ => r2 z (by omega) (by omega)⟩
theorem m_manyOf (h : mS Γ R p) (hx : x < 26) (hy : y < 26) (hX : mAu N p x X) (hY : mAu N p y Y) {kind : Nat} (hk : kind < 1000) : f_X7_manyOf Γ p (nI x) (nI y) (nI kind) (cS N R J) = some (nI (comA X Y kind).1, cS N R J) := by
  unfold f_X7_manyOf
  rw [L1, comA_n]
  by_cases e : kind = 1
  · rw [ieq_t e, if_pos e, c_chkO h.ob, m_many h hx, hX.1, c_bnd, c_chkO h.ob, m_many h hy, hY.1, c_bnd, pk_mul]
    rfl
  · rw [ieq_f e (by omega) (by omega), if_neg e, c_chkO h.ob, m_many h hx, hX.1, c_bnd, c_chkO h.ob, m_many h hy, hY.1, c_bnd, nI_add]
    rfl
theorem m_combines (h : mS Γ R p) (hx : x < 26) (hy : y < 26) (hx5 : x ≠ 5) (hy5 : y ≠ 5) (hX : mAu N p x X) (hY : mAu N p y Y) (hX12 : X.1 ≤ 12) (hY12 : Y.1 ≤ 12) (okX : okA X) (okY : okA Y) {kind : Nat} (hk : kind < 3) (hc : (comA X Y kind).1 ≤ 12) : Mx (f_X7_combines Γ p (nI x) (nI y) (nI kind) (cS N R J)) (fun σ => ((), σ)) R J (fun N' => frP N N' p (313 * 5) (313 * 5 + 313) ∧ mAu N' p 5 (comA X Y kind)) := by
  rw [comA_n] at hc
  unfold f_X7_combines f_X7_combines_L36 comA
  rw [L0, L1, L5]
  by_cases e : kind = 0
  · rw [if_neg (by omega)] at hc
    rw [ieq_t e, if_pos e, c_chkO h.ob]
    refine mx_bnd (m_sums h hx hy (q := 5) (by omega) hx5 hy5 hX hY hc) ?_
    intro N1 r
    exact mx_eq rfl r
  · rw [ieq_f e (by omega) (by omega), if_neg e]
    by_cases e2 : kind = 1
    · rw [if_pos e2] at hc
      rw [ieq_t e2, if_pos e2, c_chkO h.ob]
      refine mx_bnd (m_multiplies h hx hy (q := 5) (by omega) hx5 hy5 hX hY hX12 hY12 okX okY hc) ?_
      intro N1 r
      exact mx_eq rfl r
    · rw [if_neg e2] at hc
      rw [ieq_f e2 (by omega) (by omega), if_neg e2, c_chkO h.ob]
      refine mx_bnd (m_joins h hx hy (q := 5) (by omega) hx5 hy5 hX hY okX okY hc) ?_
      intro N1 r
      exact mx_eq rfl r
end MG
