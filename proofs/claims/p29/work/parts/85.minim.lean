/-! ===== the least automaton; the first word; ranks ===== -/
section MNM
variable {A B X Y : Au}
theorem min_eq (ok : okA A) (h24 : A.1 ≤ 24) : sEq (minA A) A := by
  have o1 := redA_ok ok
  have l1 : (redA A).1 ≤ 24 := Nat.le_trans (redA_le ok) h24
  have h1 := red_eq (revA_ok o1) l1
  have h2 : sEq (minA A) (revA (revA (redA A))) := h1.rev
  exact h2.tr (red_eq ok h24)
/-- how many states the least automaton has depends on the series alone -/
theorem min_n (okA' : okA A) (hA : A.1 ≤ 24) (okB : okA B) (hB : B.1 ≤ 24) (h : sEq A B) : (minA A).1 = (minA B).1 := by
  show (expl (revA (redA A))).1 = (expl (revA (redA B))).1
  exact lock (revA_ok (redA_ok okA')) (revA_ok (redA_ok okB)) (bk_rl okA' hA okB hB h) (bk_rl okB hB okA' hA h.sm)
/-- the forward space of a reduced automaton -/
theorem red_n (ok : okA A) (h24 : A.1 ≤ 24) : (expl (redA A)).1 = (redA A).1 := by
  obtain ⟨r1, r2⟩ := red_rl ok h24
  exact lock (redA_ok ok) ok r2 r1
/-- that of a least one -/
theorem min_x (ok : okA A) (h24 : A.1 ≤ 24) : (expl (minA A)).1 = (minA A).1 := by
  have okM := minA_ok ok
  have lM : (minA A).1 ≤ 24 := Nat.le_trans (minA_le ok) h24
  have h1 : (expl (minA A)).1 ≤ (minA A).1 := ex_le okM lM
  have okR := redA_ok okM
  have lR : (redA (minA A)).1 ≤ 24 := Nat.le_trans (redA_le okM) lM
  have h2 := min_n okR lR ok h24 ((red_eq okM lM).tr (min_eq ok h24))
  have h3 := minA_le okR
  have h4 : (redA (minA A)).1 = (expl (minA A)).1 := rfl
  omega
/-- the reversal's least automaton has as many states -/
theorem min_rev1 (ok : okA A) (h24 : A.1 ≤ 24) : (minA (revA A)).1 ≤ (minA A).1 := by
  have okM := minA_ok ok
  have lM : (minA A).1 ≤ 24 := Nat.le_trans (minA_le ok) h24
  have h2 := min_n (revA_ok ok) h24 (revA_ok okM) lM (min_eq ok h24).sm.rev
  have h3 := minA_le (revA_ok okM)
  have h4 : (revA (minA A)).1 = (minA A).1 := rfl
  omega
theorem min_rev (ok : okA A) (h24 : A.1 ≤ 24) : (minA (revA A)).1 = (minA A).1 := by
  have h1 := min_rev1 ok h24
  have h2 := min_rev1 (A := revA A) (revA_ok ok) h24
  rw [rev_rev] at h2
  omega
/-! the first word -/
theorem ww_bs (ok : okA A) (h24 : A.1 ≤ 24) {k : Nat} (hk : k < (expl A).1) : fc (wtA A ((expl A).2.2.2.1 k)) = ww A (lw ((expl A).2.1 k + 1)) := by
  obtain ⟨hI, hJ, hW, -⟩ := ex_at ok h24
  rw [fc_wtA]
  exact fs_c (fun i hi => by rw [← hW k i hk hi]; rfl)
/-- every word's vector: from the basis words up to it -/
theorem vv_span (ok : okA A) (h24 : A.1 ≤ 24) : ∀ (n c : Nat), c ≤ n → 1 ≤ c → ∃ a : Nat → FK, (∀ j, j < (expl A).1 → c < (expl A).2.1 j + 1 → a j = 0) ∧ ∀ i, i < A.1 → vv A (lw c) i = fs (expl A).1 (fun j => a j * bv (expl A) j i) := by
  obtain ⟨hI, hJ, hW, hU⟩ := ex_at ok h24
  intro n
  induction n with
  | zero => intro c h1 h2; omega
  | succ n ih =>
    intro c hc h1
    by_cases e : c ≤ 1
    · obtain ⟨⟨a, ha⟩, h0⟩ := ex_ini ok h24
      refine ⟨fun j => if j = 0 then 1 else 0, fun j hj h2 => ?_, fun i hi => ?_⟩
      · by_cases e2 : j = 0
        · subst e2
          rw [h0 hj] at h2
          omega
        · exact if_neg e2
      · show vv A (lw c) i = fs (expl A).1 (fun j => (if j = 0 then 1 else 0) * bv (expl A) j i)
        rw [lw_low e]
        rcases Nat.eq_zero_or_pos (expl A).1 with e3 | e3
        · have := ha i hi
          rw [e3] at this ⊢
          exact this
        · have hb := hW 0 i e3 hi
          rw [h0 e3, lw_low (Nat.le_refl 1)] at hb
          rw [← hb, fs_at (k := 0) (a := fun j => bv (expl A) j i) e3 (fun j _ => ?_)]
          by_cases e4 : j = 0
          · rw [if_pos e4, if_pos e4]
            exact k_1m
          · rw [if_neg e4, if_neg e4]
            exact k_zm
    · obtain ⟨a, a0, ha⟩ := ih (c / 2) (by omega) (by omega)
      have hst : ∀ k, ∃ b : Nat → FK, k < (expl A).1 → (∀ j, j < (expl A).1 → 2 * (expl A).2.1 k + 1 + c % 2 < (expl A).2.1 j → b j = 0) ∧ ∀ i, i < A.1 → vv A (⟨c % 2, Nat.mod_lt _ (Nat.succ_pos 1)⟩ :: lw ((expl A).2.1 k + 1)) i = fs (expl A).1 (fun j => b j * bv (expl A) j i) := by
        intro k
        by_cases e2 : k < (expl A).1
        · obtain ⟨b, b1, b2⟩ := ex_stp ok h24 e2 ⟨c % 2, Nat.mod_lt _ (Nat.succ_pos 1)⟩
          exact ⟨b, fun _ => ⟨b1, b2⟩⟩
        · exact ⟨fun _ => 0, fun h => absurd h e2⟩
      obtain ⟨b, hb⟩ : ∃ b : Nat → Nat → FK, ∀ k, k < (expl A).1 → (∀ j, j < (expl A).1 → 2 * (expl A).2.1 k + 1 + c % 2 < (expl A).2.1 j → b k j = 0) ∧ ∀ i, i < A.1 → vv A (⟨c % 2, Nat.mod_lt _ (Nat.succ_pos 1)⟩ :: lw ((expl A).2.1 k + 1)) i = fs (expl A).1 (fun j => b k j * bv (expl A) j i) := ⟨fun k => Classical.choose (hst k), fun k hk => Classical.choose_spec (hst k) hk⟩
      refine ⟨fun j => fs (expl A).1 (fun k => a k * b k j), fun j hj h2 => ?_, fun i hi => ?_⟩
      · refine fs_0 (fun k hk => ?_)
        by_cases e2 : c / 2 < (expl A).2.1 k + 1
        · rw [a0 k hk e2]
          exact k_zm
        · rw [(hb k hk).1 j hj (by omega)]
          exact k_mz
      · show vv A (lw c) i = fs (expl A).1 (fun j => fs (expl A).1 (fun k => a k * b k j) * bv (expl A) j i)
        rw [lw_hi (by omega), vv_c, fs_c (n := A.1) (g := fun q => fs (expl A).1 (fun k => a k * (bv (expl A) k q * fc (A.2.2.2 (c % 2) q i)))) (fun q hq => by rw [ha q hq, ← fs_mulr]; exact fs_c (fun k _ => k_a3.symm)), fs_swap, fs_c (n := (expl A).1) (g := fun k => fs (expl A).1 (fun j => a k * b k j * bv (expl A) j i)) (fun k hk => ?_), fs_swap]
        · exact fs_c (fun j _ => by rw [fs_mulr])
        · rw [fs_mul, fs_c (n := (expl A).1) (g := fun j => a k * (b k j * bv (expl A) j i)) (fun j _ => k_a3.symm), fs_mul, ← (hb k hk).2 i hi, vv_c]
          congr 1
          exact fs_c (fun q hq => by rw [hW k q hk hq])
/-- the answer of first: none, or the first word that weighs something -/
theorem fW_none (ok : okA A) (h24 : A.1 ≤ 24) (h : ∀ w, ww A w = 0) : fW A (fun k => wtA A ((expl A).2.2.2.1 k)) = -1 := by
  unfold fW
  refine if_pos (fnz_of (Nat.le_refl _) (fun k hk => ?_) (fun h => absurd h (Nat.lt_irrefl _)))
  refine (fc_z wtA_lt).mp ?_
  rw [ww_bs ok h24 hk, h]
theorem fW_spec (ok : okA A) (h24 : A.1 ≤ 24) : (fW A (fun k => wtA A ((expl A).2.2.2.1 k)) = -1 ∧ ∀ w, ww A w = 0) ∨ ∃ c, fW A (fun k => wtA A ((expl A).2.2.2.1 k)) = nI c ∧ ww A (lw (c + 1)) ≠ 0 ∧ ∀ d, d < c → ww A (lw (d + 1)) = 0 := by
  obtain ⟨hI, hJ, hW, hU⟩ := ex_at ok h24
  obtain ⟨s1, s2⟩ := fnz_spec (f := fun k => wtA A ((expl A).2.2.2.1 k)) (expl A).1
  have hle := fnz_le (f := fun k => wtA A ((expl A).2.2.2.1 k)) (expl A).1
  have hsum : ∀ c, 1 ≤ c → (∀ j, j < (expl A).1 → (expl A).2.1 j + 1 ≤ c → wtA A ((expl A).2.2.2.1 j) = 0) → ww A (lw c) = 0 := by
    intro c hc h0
    obtain ⟨a, a0, ha⟩ := vv_span ok h24 c c (Nat.le_refl c) hc
    unfold ww
    rw [fs_c (n := A.1) (g := fun i => fs (expl A).1 (fun j => a j * (bv (expl A) j i * fc (A.2.2.1 i)))) (fun i hi => by rw [ha i hi, ← fs_mulr]; exact fs_c (fun j _ => k_a3.symm)), fs_swap]
    refine fs_0 (fun j hj => ?_)
    rw [fs_mul, show fs A.1 (fun i => bv (expl A) j i * fc (A.2.2.1 i)) = fc (wtA A ((expl A).2.2.2.1 j)) from fc_wtA.symm]
    by_cases e : (expl A).2.1 j + 1 ≤ c
    · rw [h0 j hj e, fc_0]
      exact k_mz
    · rw [a0 j hj (by omega)]
      exact k_zm
  unfold fW
  by_cases e : fnz (fun k => wtA A ((expl A).2.2.2.1 k)) (expl A).1 = (expl A).1
  · left
    refine ⟨if_pos e, fun w => ?_⟩
    obtain ⟨c, hc, rfl⟩ := lw_all w
    exact hsum c hc (fun j hj _ => s1 j (by rw [e]; exact hj))
  · right
    have hk : fnz (fun k => wtA A ((expl A).2.2.2.1 k)) (expl A).1 < (expl A).1 := by omega
    generalize fnz (fun k => wtA A ((expl A).2.2.2.1 k)) (expl A).1 = k at *
    refine ⟨(expl A).2.1 k, if_neg e, fun h => s2 hk ((fc_z wtA_lt).mp ?_), fun d hd => ?_⟩
    · rw [ww_bs ok h24 hk]
      exact h
    · refine hsum (d + 1) (by omega) (fun j hj h1 => s1 j ?_)
      rcases Nat.lt_trichotomy j k with g | g | g
      · exact g
      · subst g
        omega
      · have := hU k j g hj
        omega
theorem fW_eq (okA' : okA A) (hA : A.1 ≤ 24) (okB : okA B) (hB : B.1 ≤ 24) (h : sEq A B) : fW A (fun k => wtA A ((expl A).2.2.2.1 k)) = fW B (fun k => wtA B ((expl B).2.2.2.1 k)) := by
  rcases fW_spec okA' hA with ⟨a1, a2⟩ | ⟨c, a1, a2, a3⟩
  · rw [a1, fW_none okB hB (fun w => by rw [← h]; exact a2 w)]
  · rcases fW_spec okB hB with ⟨b1, b2⟩ | ⟨d, b1, b2, b3⟩
    · exact absurd (by rw [h]; exact b2 _) a2
    · rw [a1, b1]
      rcases Nat.lt_trichotomy c d with g | g | g
      · exact absurd (by rw [h]; exact b3 c g) a2
      · rw [g]
      · exact absurd (by rw [← h]; exact a3 d g) b2
/-- alike series don't differ -/
theorem dif_none (okX : okA X) (okY : okA Y) (h24 : X.1 + Y.1 ≤ 24) (h : sEq X Y) : fW (difA X Y) (fun k => wtA (difA X Y) ((expl (difA X Y)).2.2.2.1 k)) = -1 :=
  fW_none (difA_ok okX okY) h24 (fun w => by rw [ww_dif okY, h]; exact k_sub_self)
end MNM
