/-! ===== the model's state, abstractly ===== -/
def mSn (N : Mem) (p k q : Nat) (A : Au) : Prop := N (p + 2) (1252 * k + 313 * q) = A.1 ∧ ∀ i, i < A.1 → N (p + 2) (1252 * k + (313 * q + 1 + i)) = A.2.1 i ∧ N (p + 2) (1252 * k + (313 * q + 13 + i)) = A.2.2.1 i ∧ ∀ j l, j < A.1 → l < 2 → N (p + 2) (1252 * k + (313 * q + 25 + 144 * l + 12 * i + j)) = A.2.2.2 l i j
def MSt (N : Mem) (p : Nat) (s : aS) : Prop := N p 2 = s.1 ∧ (∀ q, q < 4 → mAu N p q (s.2.1 s.1 q)) ∧ ∀ k q, k < s.1 → q < 4 → mSn N p k q (s.2.1 k q)
section MT
variable {Γ : zSh} {N R : Mem} {J : Nat → Nat → Int64} {p slot : Nat} {s : aS} {A B : Au}
theorem MSt.set {N' : Mem} (hI : aI s) (hB12 : B.1 ≤ 12) (h : MSt N p (aSave s slot B)) (hs : slot < 4) (h2 : N' p 2 = N p 2) (hsv : N' (p + 2) = N (p + 2)) (hf : ∀ z, z < 1252 → z < 313 * slot ∨ 313 * slot + 313 ≤ z → N' (p + 1) z = N (p + 1) z) (hA : mAu N' p slot A) : MSt N' p (aSave s slot A) := by
  obtain ⟨b1, b2⟩ := aBase_le hI.1
  refine ⟨by rw [h2]; exact h.1, fun q hq => ?_, fun k q hk hq => ?_⟩
  · show mAu N' p q (if aBase s.1 + 1 = aBase s.1 + 1 then _ else _)
    rw [if_pos rfl]
    by_cases e : q = slot
    · rw [if_pos e, e]; exact hA
    · rw [if_neg e]
      have h4 := h.2.1 q hq
      have h3 : (aSave s slot B).2.1 (aSave s slot B).1 q = s.2.1 s.1 q := by
        show (if aBase s.1 + 1 = aBase s.1 + 1 then _ else _) = _
        rw [if_pos rfl, if_neg e]
      rw [h3] at h4
      have h12 := (hI.2.1 s.1 q (Nat.le_refl _) hq).2
      refine ⟨by rw [hf _ (by omega) (by omega)]; exact h4.1, fun i hi => ⟨?_, ?_, fun j l hj hl => ?_⟩⟩
      · rw [hf _ (by omega) (by omega)]; exact (h4.2 i hi).1
      · rw [hf _ (by omega) (by omega)]; exact (h4.2 i hi).2.1
      · rw [hf _ (by omega) (by omega)]; exact (h4.2 i hi).2.2 j l hj hl
  · have hk' : k < aBase s.1 + 1 := hk
    have h3 : (aSave s slot A).2.1 k q = (aSave s slot B).2.1 k q := by
      show (if k = aBase s.1 + 1 then _ else _ : Au) = if k = aBase s.1 + 1 then _ else _
      rw [if_neg (by omega), if_neg (by omega)]
    rw [h3]
    have := h.2.2 k q hk hq
    unfold mSn at this ⊢
    rw [hsv]
    exact this
theorem m_saveS (h : mS Γ R p) (hI : aI s) (hst : MSt N p s) (hs : slot < 4) : Mx (f_X7_save Γ p (cS N R J)) (fun σ => ((), σ)) R J (fun N' => MSt N' p (aSave s slot (s.2.1 s.1 slot)) ∧ (∀ x, x ≠ p → x ≠ p + 2 → N' x = N x) ∧ ∀ i, i ≠ 2 → N' p i = N p i) := by
  obtain ⟨b1, b2⟩ := aBase_le hI.1
  refine mx_mono (m_save h hst.1 hI.1) ?_
  intro N1 ⟨r1, r2, r3, r4, r5⟩
  have e1 : (if s.1 = 4 then 3 else s.1) = aBase s.1 := rfl
  have e2 : (if s.1 = 4 then 1252 else 0) = 1252 * aOff s.1 := by
    unfold aOff
    by_cases e : s.1 = 4
    · rw [if_pos e, if_pos e]
    · rw [if_neg e, if_neg e]
  rw [e1] at r3 r4 r5
  rw [e2] at r4
  refine ⟨⟨r3, fun q hq => ?_, fun k q hk hq => ?_⟩, r1, r2⟩
  · have : (aSave s slot (s.2.1 s.1 slot)).2.1 (aSave s slot (s.2.1 s.1 slot)).1 q = s.2.1 s.1 q := by
      show (if aBase s.1 + 1 = aBase s.1 + 1 then _ else _) = _
      rw [if_pos rfl]
      by_cases e2 : q = slot
      · rw [if_pos e2, e2]
      · rw [if_neg e2]
    rw [this]
    exact (hst.2.1 q hq).eq (r1 _ (by omega) (by omega))
  · have hk' : k < aBase s.1 + 1 := hk
    have t2 : (aSave s slot (s.2.1 s.1 slot)).2.1 k q = s.2.1 (k + aOff s.1) q := by
      show (if k = aBase s.1 + 1 then _ else _) = _
      rw [if_neg (by omega)]
    rw [t2]
    by_cases e3 : k = aBase s.1
    · subst e3
      rw [b2]
      have h12 := (hI.2.1 s.1 q (Nat.le_refl _) hq).2
      have hq4 := hst.2.1 q hq
      refine ⟨by rw [r5 _ (by omega)]; exact hq4.1, fun i hi => ⟨?_, ?_, fun j l hj hl => ?_⟩⟩
      · rw [r5 _ (by omega)]; exact (hq4.2 i hi).1
      · rw [r5 _ (by omega)]; exact (hq4.2 i hi).2.1
      · rw [r5 _ (by omega)]; exact (hq4.2 i hi).2.2 j l hj hl
    · have h12 := (hI.2.1 (k + aOff s.1) q (by omega) hq).2
      have hq4 := hst.2.2 (k + aOff s.1) q (by omega) hq
      have mv : ∀ z, z < 1252 → N1 (p + 2) (1252 * k + z) = N (p + 2) (1252 * (k + aOff s.1) + z) := fun z hz => by
        rw [r4 _ (by omega)]
        congr 1
        omega
      refine ⟨by rw [mv _ (by omega)]; exact hq4.1, fun i hi => ⟨?_, ?_, fun j l hj hl => ?_⟩⟩
      · rw [mv _ (by omega)]; exact (hq4.2 i hi).1
      · rw [mv _ (by omega)]; exact (hq4.2 i hi).2.1
      · rw [mv _ (by omega)]; exact (hq4.2 i hi).2.2 j l hj hl
end MT
