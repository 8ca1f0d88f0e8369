/-! ===== expressions, abstractly ===== -/
abbrev vs := Nat × Au × (Nat → Nat) × (Nat → Au) × (Nat → Nat) × (Nat → Au)
/-- depth, figures, whether a factor stands -/
abbrev syS := Nat × Nat × Nat
abbrev isDg (c : Nat) : Prop := 48 ≤ c ∧ c ≤ 57
def badN (s : syS) (c : Nat) : Nat := if isDg c then (if 4 ≤ s.2.1 then 1 else 0) else if c = 40 then (if s.1 < 8 then 0 else 1) else if c = 41 then (if s.2.2 = 1 ∧ 0 < s.1 then 0 else 1) else if c = 42 ∨ c = 43 then (if s.2.2 = 1 then 0 else 1) else if c = 97 ∨ c = 98 then 0 else 1
def syN (s : syS) (c : Nat) : syS := (if c = 40 then s.1 + 1 else if c = 41 then s.1 - 1 else s.1, if isDg c then s.2.1 + 1 else 0, if c = 40 ∨ c = 43 then 0 else 1)
def syT (t : Nat → Nat) : Nat → syS
  | 0 => (0, 0, 0)
  | n + 1 => syN (syT t n) (t n)
def bdT (t : Nat → Nat) (n : Nat) : Nat := badN (syT t n) (t n)
noncomputable def clF (d : Nat) (v : vs) : vs := if v.2.2.1 d = 0 then (0, v.2.1, up1 v.2.2.1 d 1, up v.2.2.2.1 d v.2.1, v.2.2.2.2) else if (v.2.2.2.1 d).1 + v.2.1.1 ≤ 12 then (0, v.2.1, v.2.2.1, up v.2.2.2.1 d (minA (cauA (v.2.2.2.1 d) v.2.1)), v.2.2.2.2) else (1, v.2)
noncomputable def clP (d : Nat) (v : vs) : vs := if v.2.2.2.2.1 d = 0 then (0, v.2.1, up1 v.2.2.1 d 0, v.2.2.2.1, up1 v.2.2.2.2.1 d 1, up v.2.2.2.2.2 d (v.2.2.2.1 d)) else if (v.2.2.2.2.2 d).1 + (v.2.2.2.1 d).1 ≤ 12 then (0, v.2.1, up1 v.2.2.1 d 0, v.2.2.2.1, v.2.2.2.2.1, up v.2.2.2.2.2 d (minA (sumA (v.2.2.2.2.2 d) (v.2.2.2.1 d)))) else (1, v.2)
noncomputable def cl2 (d : Nat) (v : vs) : vs := if (clF d v).1 = 0 then clP d (clF d v) else clF d v
noncomputable def vsF (v : vs) : vs := if v.2.1.1 < 12 ∧ wtA v.2.1 v.2.1.2.1 = 0 then (0, minA (staA v.2.1), v.2.2) else (1, v.2)
def vsC (d : Nat) (v : vs) : vs := if v.1 = 0 then (0, v.2.2.2.2.2 d, v.2.2) else v
def vsO (d : Nat) (v : vs) : vs := (0, v.2.1, up1 v.2.2.1 (d + 1) 0, v.2.2.2.1, up1 v.2.2.2.2.1 (d + 1) 0, v.2.2.2.2.2)
def vsB (v : vs) (c : Nat) : vs := (0, (if isDg c then numA (c - 48) else letA (if c = 98 then 1 else 0)), v.2.2)
noncomputable def vsE (s : syS) (v : vs) : vs := if s.2.2 = 1 then clF s.1 v else v
noncomputable def vsN (v : vs) (s : syS) (c : Nat) : vs := if v.1 = 0 then (if c = 42 then vsF v else if c = 43 then cl2 s.1 v else if c = 41 then vsC s.1 (cl2 s.1 v) else if isDg c ∧ 0 < s.2.1 then (0, numA (10 * v.2.1.2.2.1 0 + c - 48), v.2.2) else if (vsE s v).1 = 0 then (if c = 40 then vsO s.1 (vsE s v) else vsB (vsE s v) c) else vsE s v) else v
noncomputable def vlT (t : Nat → Nat) : Nat → vs
  | 0 => (0, zerA 0, fun _ => 0, fun _ => zerA 0, fun _ => 0, fun _ => zerA 0)
  | n + 1 => vsN (vlT t n) (syT t n) (t n)
def vI (v : vs) : Prop := (okA v.2.1 ∧ v.2.1.1 ≤ 12) ∧ ∀ k, (okA (v.2.2.2.1 k) ∧ (v.2.2.2.1 k).1 ≤ 12) ∧ okA (v.2.2.2.2.2 k) ∧ (v.2.2.2.2.2 k).1 ≤ 12
theorem up_I {f : Nat → Au} {d : Nat} {A : Au} (h : ∀ k, okA (f k) ∧ (f k).1 ≤ 12) (hA : okA A ∧ A.1 ≤ 12) (k : Nat) : okA (up f d A k) ∧ (up f d A k).1 ≤ 12 := by
  unfold up
  by_cases e : k = d
  · rw [if_pos e]; exact hA
  · rw [if_neg e]; exact h k
theorem minA_12 {A : Au} (ok : okA A) (h : A.1 ≤ 12) : okA (minA A) ∧ (minA A).1 ≤ 12 := ⟨minA_ok ok, Nat.le_trans (minA_le ok) h⟩
theorem clF_I {d : Nat} {v : vs} (h : vI v) : vI (clF d v) := by
  obtain ⟨h1, h2⟩ := h
  unfold clF
  by_cases e : v.2.2.1 d = 0
  · rw [if_pos e]
    exact ⟨h1, fun k => ⟨up_I (fun k => (h2 k).1) h1 k, (h2 k).2⟩⟩
  · rw [if_neg e]
    by_cases e2 : (v.2.2.2.1 d).1 + v.2.1.1 ≤ 12
    · rw [if_pos e2]
      exact ⟨h1, fun k => ⟨up_I (fun k => (h2 k).1) (minA_12 (cauA_ok (h2 d).1.1 h1.1) e2) k, (h2 k).2⟩⟩
    · rw [if_neg e2]
      exact ⟨h1, h2⟩
theorem clP_I {d : Nat} {v : vs} (h : vI v) : vI (clP d v) := by
  obtain ⟨h1, h2⟩ := h
  unfold clP
  by_cases e : v.2.2.2.2.1 d = 0
  · rw [if_pos e]
    exact ⟨h1, fun k => ⟨(h2 k).1, up_I (fun k => (h2 k).2) (h2 d).1 k⟩⟩
  · rw [if_neg e]
    by_cases e2 : (v.2.2.2.2.2 d).1 + (v.2.2.2.1 d).1 ≤ 12
    · rw [if_pos e2]
      exact ⟨h1, fun k => ⟨(h2 k).1, up_I (fun k => (h2 k).2) (minA_12 (sumA_ok (h2 d).2.1 (h2 d).1.1) e2) k⟩⟩
    · rw [if_neg e2]
      exact ⟨h1, h2⟩
theorem cl2_I {d : Nat} {v : vs} (h : vI v) : vI (cl2 d v) := by
  unfold cl2
  by_cases e : (clF d v).1 = 0
  · rw [if_pos e]; exact clP_I (clF_I h)
  · rw [if_neg e]; exact clF_I h
theorem vsE_I {s : syS} {v : vs} (h : vI v) : vI (vsE s v) := by
  unfold vsE
  by_cases e : s.2.2 = 1
  · rw [if_pos e]; exact clF_I h
  · rw [if_neg e]; exact h
theorem fl_clF {d : Nat} {v : vs} : (clF d v).1 ≤ 1 := by
  unfold clF
  by_cases e : v.2.2.1 d = 0
  · rw [if_pos e]; exact Nat.zero_le _
  · rw [if_neg e]
    by_cases e2 : (v.2.2.2.1 d).1 + v.2.1.1 ≤ 12
    · rw [if_pos e2]; exact Nat.zero_le _
    · rw [if_neg e2]; exact Nat.le_refl _
theorem fl_clP {d : Nat} {v : vs} : (clP d v).1 ≤ 1 := by
  unfold clP
  by_cases e : v.2.2.2.2.1 d = 0
  · rw [if_pos e]; exact Nat.zero_le _
  · rw [if_neg e]
    by_cases e2 : (v.2.2.2.2.2 d).1 + (v.2.2.2.1 d).1 ≤ 12
    · rw [if_pos e2]; exact Nat.zero_le _
    · rw [if_neg e2]; exact Nat.le_refl _
/-- what holds at a place that no fault stands before -/
def sInv (t : Nat → Nat) (n : Nat) : Prop := ((syT t n).1 ≤ 8 ∧ (syT t n).2.1 ≤ 4 ∧ (syT t n).2.2 ≤ 1) ∧ (0 < (syT t n).2.1 ↔ 0 < n ∧ isDg (t (n - 1))) ∧ (0 < (syT t n).2.1 → (syT t n).2.2 = 1) ∧ vI (vlT t n) ∧ (0 < (syT t n).2.1 → (vlT t n).1 = 0 → ∃ w, (vlT t n).2.1 = numA w ∧ w < 10 ^ (syT t n).2.1)
theorem numA_I {w : Nat} (h : w < 10007) : okA (numA w) ∧ (numA w).1 ≤ 12 := ⟨numA_ok h, by show 1 ≤ 12; omega⟩
theorem sInv_succ {t : Nat → Nat} {n : Nat} (h : sInv t n) (hb : bdT t n = 0) : sInv t (n + 1) := by
  obtain ⟨⟨h1, h2, h3⟩, h4, h5, ⟨h6, h7⟩, h8⟩ := h
  have hs : syT t (n + 1) = syN (syT t n) (t n) := rfl
  have hv : vlT t (n + 1) = vsN (vlT t n) (syT t n) (t n) := rfl
  unfold sInv
  rw [hs, hv]
  unfold bdT badN at hb
  generalize syT t n = s at *
  generalize vlT t n = v at *
  have hn : t (n + 1 - 1) = t n := rfl
  rw [hn]
  generalize t n = c at *
  have hI : vI v := ⟨h6, h7⟩
  by_cases hd : isDg c
  · rw [if_pos hd] at hb
    have g4 : ¬ 4 ≤ s.2.1 := fun u => by rw [if_pos u] at hb; omega
    have c40 : c ≠ 40 := by have := hd.1; omega
    have c41 : c ≠ 41 := by have := hd.1; omega
    have c42 : c ≠ 42 := by have := hd.1; omega
    have c43 : c ≠ 43 := by have := hd.1; omega
    have d1 : (syN s c).1 = s.1 := by unfold syN; rw [if_neg c40, if_neg c41]
    have d2 : (syN s c).2.1 = s.2.1 + 1 := by unfold syN; rw [if_pos hd]
    have d3 : (syN s c).2.2 = 1 := show (if c = 40 ∨ c = 43 then 0 else 1) = 1 from if_neg (by omega)
    rw [d1, d2, d3]
    refine ⟨⟨h1, by omega, by omega⟩, ⟨fun _ => ⟨by omega, hd⟩, fun _ => by omega⟩, fun _ => rfl, ?_, ?_⟩
    · unfold vsN
      by_cases e0 : v.1 = 0
      · rw [if_pos e0, if_neg c42, if_neg c43, if_neg c41]
        by_cases e1 : isDg c ∧ 0 < s.2.1
        · rw [if_pos e1]
          obtain ⟨w, w1, w2⟩ := h8 e1.2 e0
          have w3 : 10 ^ s.2.1 ≤ 10 ^ 3 := Nat.pow_le_pow_right (by omega) (by omega)
          have hw : v.2.1.2.2.1 0 = w := by rw [w1]; rfl
          refine ⟨numA_I ?_, h7⟩
          rw [hw]
          have := hd.2
          omega
        · rw [if_neg e1]
          have hE := vsE_I (s := s) hI
          by_cases e2 : (vsE s v).1 = 0
          · rw [if_pos e2, if_neg c40]
            unfold vsB
            rw [if_pos hd]
            exact ⟨numA_I (by have := hd.2; omega), hE.2⟩
          · rw [if_neg e2]
            exact hE
      · rw [if_neg e0]
        exact hI
    · intro _
      unfold vsN
      by_cases e0 : v.1 = 0
      · rw [if_pos e0, if_neg c42, if_neg c43, if_neg c41]
        by_cases e1 : isDg c ∧ 0 < s.2.1
        · rw [if_pos e1]
          intro _
          obtain ⟨w, w1, w2⟩ := h8 e1.2 e0
          have hw : v.2.1.2.2.1 0 = w := by rw [w1]; rfl
          refine ⟨_, rfl, ?_⟩
          rw [hw, Nat.pow_succ]
          have := hd.2
          omega
        · rw [if_neg e1]
          by_cases e2 : (vsE s v).1 = 0
          · rw [if_pos e2, if_neg c40]
            unfold vsB
            rw [if_pos hd]
            intro _
            refine ⟨c - 48, rfl, ?_⟩
            rw [Nat.pow_succ]
            have : 1 ≤ 10 ^ s.2.1 := Nat.pow_pos (by omega)
            have := hd.2
            omega
          · rw [if_neg e2]
            intro u
            exact absurd u e2
      · rw [if_neg e0]
        intro u
        exact absurd u e0
  · rw [if_neg hd] at hb
    have d2 : (syN s c).2.1 = 0 := by unfold syN; rw [if_neg hd]
    rw [d2]
    refine ⟨⟨?_, by omega, ?_⟩, ⟨fun u => absurd u (by omega), fun u => absurd u.2 hd⟩, fun u => absurd u (by omega), ?_, fun u => absurd u (by omega)⟩
    · unfold syN
      show (if c = 40 then s.1 + 1 else if c = 41 then s.1 - 1 else s.1) ≤ 8
      by_cases e1 : c = 40
      · rw [if_pos e1] at hb ⊢
        have : s.1 < 8 := by
          rcases Nat.lt_or_ge s.1 8 with u | u
          · exact u
          · rw [if_neg (by omega)] at hb; omega
        omega
      · rw [if_neg e1]
        by_cases e2 : c = 41
        · rw [if_pos e2]; omega
        · rw [if_neg e2]; exact h1
    · unfold syN
      show (if c = 40 ∨ c = 43 then 0 else 1) ≤ 1
      by_cases e1 : c = 40 ∨ c = 43
      · rw [if_pos e1]; omega
      · rw [if_neg e1]; omega
    · unfold vsN
      by_cases e0 : v.1 = 0
      · rw [if_pos e0]
        by_cases c42 : c = 42
        · rw [if_pos c42]
          unfold vsF
          by_cases e1 : v.2.1.1 < 12 ∧ wtA v.2.1 v.2.1.2.1 = 0
          · rw [if_pos e1]
            exact ⟨minA_12 (staA_ok h6.1) (by show v.2.1.1 + 1 ≤ 12; omega), h7⟩
          · rw [if_neg e1]
            exact hI
        · rw [if_neg c42]
          by_cases c43 : c = 43
          · rw [if_pos c43]
            exact cl2_I hI
          · rw [if_neg c43]
            by_cases c41 : c = 41
            · rw [if_pos c41]
              have hC := cl2_I (d := s.1) hI
              unfold vsC
              by_cases e1 : (cl2 s.1 v).1 = 0
              · rw [if_pos e1]
                exact ⟨(hC.2 s.1).2, hC.2⟩
              · rw [if_neg e1]
                exact hC
            · rw [if_neg c41, if_neg (fun u => hd u.1)]
              have hE := vsE_I (s := s) hI
              by_cases e2 : (vsE s v).1 = 0
              · rw [if_pos e2]
                by_cases c40 : c = 40
                · rw [if_pos c40]
                  exact hE
                · rw [if_neg c40]
                  unfold vsB
                  rw [if_neg hd]
                  exact ⟨⟨letA_ok, by show 2 ≤ 12; omega⟩, hE.2⟩
              · rw [if_neg e2]
                exact hE
      · rw [if_neg e0]
        exact hI
theorem sInv_all {t : Nat → Nat} : ∀ n, (∀ i, i < n → bdT t i = 0) → sInv t n := by
  intro n
  induction n with
  | zero =>
    intro _
    refine ⟨⟨Nat.zero_le _, Nat.zero_le _, Nat.zero_le _⟩, ⟨fun u => absurd u (Nat.lt_irrefl 0), fun u => absurd u.1 (Nat.lt_irrefl 0)⟩, fun u => absurd u (Nat.lt_irrefl 0), ⟨⟨zerA_ok, Nat.zero_le _⟩, fun k => ⟨⟨zerA_ok, Nat.zero_le _⟩, zerA_ok, Nat.zero_le _⟩⟩, fun u => absurd u (Nat.lt_irrefl 0)⟩
  | succ n ih =>
    intro h
    exact sInv_succ (ih (fun i hi => h i (by omega))) (h n (by omega))
theorem fnz_all {f : Nat → Nat} {n : Nat} (h : fnz f n = n) : ∀ i, i < n → f i = 0 := fun i hi => (fnz_spec (f := f) n).1 i (by omega)
