/-! ===== the state of both, abstractly ===== -/
abbrev aS := Nat × (Nat → Nat → Au) × (Nat → Nat)
def aOff (m : Nat) : Nat := if m = 4 then 1 else 0
def aBase (m : Nat) : Nat := if m = 4 then 3 else m
def aSave (s : aS) (slot : Nat) (A : Au) : aS := (aBase s.1 + 1, fun k q => if k = aBase s.1 + 1 then (if q = slot then A else s.2.1 s.1 q) else s.2.1 (k + aOff s.1) q, fun k => if k = aBase s.1 then slot else s.2.2 (k + aOff s.1))
/-- what holds of the abstract state -/
def aI (s : aS) : Prop := s.1 ≤ 4 ∧ (∀ k q, k ≤ s.1 → q < 4 → okA (s.2.1 k q) ∧ (s.2.1 k q).1 ≤ 12) ∧ ∀ k, k < s.1 → s.2.2 k < 4 ∧ ∀ q, q < 4 → q ≠ s.2.2 k → s.2.1 k q = s.2.1 (k + 1) q
theorem aBase_le {m : Nat} (h : m ≤ 4) : aBase m ≤ 3 ∧ aBase m + aOff m = m := by
  unfold aBase aOff
  by_cases e : m = 4
  · rw [if_pos e, if_pos e]; omega
  · rw [if_neg e, if_neg e]; omega
theorem aSave_I {s : aS} (h : aI s) {slot : Nat} {A : Au} (hs : slot < 4) (ok : okA A) (h12 : A.1 ≤ 12) : aI (aSave s slot A) := by
  obtain ⟨h1, h2, h3⟩ := h
  obtain ⟨b1, b2⟩ := aBase_le h1
  refine ⟨(by show aBase s.1 + 1 ≤ 4; omega), fun k q hk hq => ?_, fun k hk => ?_⟩
  · have hk' : k ≤ aBase s.1 + 1 := hk
    show okA (if k = aBase s.1 + 1 then _ else _) ∧ (if k = aBase s.1 + 1 then _ else _ : Au).1 ≤ 12
    by_cases e : k = aBase s.1 + 1
    · rw [if_pos e]
      by_cases e2 : q = slot
      · rw [if_pos e2]; exact ⟨ok, h12⟩
      · rw [if_neg e2]; exact h2 _ _ (Nat.le_refl _) hq
    · rw [if_neg e]; exact h2 _ _ (by omega) hq
  · have hk' : k < aBase s.1 + 1 := hk
    show (if k = aBase s.1 then slot else _) < 4 ∧ ∀ q, q < 4 → q ≠ (if k = aBase s.1 then slot else _) → (if k = aBase s.1 + 1 then _ else _ : Au) = if k + 1 = aBase s.1 + 1 then _ else _
    by_cases e : k = aBase s.1
    · rw [if_pos e]
      refine ⟨hs, fun q hq hne => ?_⟩
      rw [if_neg (by omega), if_pos (by omega), if_neg hne, e, b2]
    · rw [if_neg e]
      obtain ⟨c1, c2⟩ := h3 (k + aOff s.1) (by omega)
      refine ⟨c1, fun q hq hne => ?_⟩
      rw [if_neg (by omega), if_neg (by omega), c2 q hq hne, show k + aOff s.1 + 1 = k + 1 + aOff s.1 by omega]
/-- the shape of the class's state -/
def cSh (Γ : zSh) (R : Mem) (o : Nat) : Prop := (Γ o = some (6 + 5, 0) ∧ o ≠ 0) ∧ (Γ (o + 1) = some (4, 4) ∧ Γ (o + 26) = some (4, 4) ∧ Γ (o + 51) = some (0, 4)) ∧ (R o 0 = o + 1 ∧ R o 1 = o + 26 ∧ R o 2 = o + 51) ∧ (∀ q, q < 4 → R (o + 1) q = o + 2 + 6 * q ∧ auS Γ R (o + 2 + 6 * q) 12) ∧ (∀ j, j < 4 → auS Γ R (o + 27 + 6 * j) 12) ∧ ∃ f : Nat → Nat, (∀ k, k < 4 → f k < 4 ∧ R (o + 26) k = o + 27 + 6 * f k) ∧ ∀ k k', k < 4 → k' < 4 → k ≠ k' → f k ≠ f k'
def CSt (N R : Mem) (o : Nat) (s : aS) : Prop := N o 3 = s.1 ∧ (∀ q, q < 4 → cAu N (o + 2 + 6 * q) (s.2.1 s.1 q)) ∧ ∀ k, k < s.1 → N (o + 51) k = s.2.2 k ∧ cAu N (R (o + 26) k) (s.2.1 k (s.2.2 k))
section ST
variable {Γ : zSh} {N R : Mem} {J : Nat → Nat → Int64} {o slot : Nat} {s : aS} {A B : Au}
/-- the slot that was changed, changed again -/
theorem CSt.set {N' : Mem} (hsh : cSh Γ R o) (hI : aI s) (h : CSt N R o (aSave s slot B)) (hs : slot < 4) (hf : frA N N' (o + 2 + 6 * slot) (o + 2 + 6 * slot + 6)) (hA : cAu N' (o + 2 + 6 * slot) A) : CSt N' R o (aSave s slot A) := by
  obtain ⟨b1, b2⟩ := aBase_le hI.1
  obtain ⟨_, _, _, _, _, f, f1, _⟩ := hsh
  refine ⟨by rw [hf o (by omega)]; exact h.1, fun q hq => ?_, fun k hk => ?_⟩
  · show cAu N' _ (if aBase s.1 + 1 = aBase s.1 + 1 then _ else _)
    rw [if_pos rfl]
    by_cases e : q = slot
    · rw [if_pos e, e]; exact hA
    · rw [if_neg e]
      have h2 := h.2.1 q hq
      have h3 : (aSave s slot B).2.1 (aSave s slot B).1 q = s.2.1 s.1 q := by
        show (if aBase s.1 + 1 = aBase s.1 + 1 then _ else _) = _
        rw [if_pos rfl, if_neg e]
      rw [h3] at h2
      exact h2.fr hf (by omega)
  · have hk' : k < aBase s.1 + 1 := hk
    obtain ⟨c1, c2⟩ := h.2.2 k hk
    obtain ⟨e1, e2⟩ := f1 k (by omega)
    refine ⟨by rw [hf _ (by omega)]; exact c1, ?_⟩
    have h3 : (aSave s slot A).2.1 k ((aSave s slot A).2.2 k) = (aSave s slot B).2.1 k ((aSave s slot B).2.2 k) := by
      show (if k = aBase s.1 + 1 then _ else _ : Au) = if k = aBase s.1 + 1 then _ else _
      rw [if_neg (by omega), if_neg (by omega)]
      rfl
    rw [h3]
    rw [e2] at c2 ⊢
    exact c2.fr hf (by omega)
end ST
