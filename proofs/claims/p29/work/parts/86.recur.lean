/-! ===== a column that depends on those before it ===== -/
section RKD
variable {h : Nat} {G : Nat → Nat → Nat}
theorem rk_inv (hG : ∀ k j, k < h → G k j < 10007) : ∀ c, (∀ r j, (rkS h G c).1 ≤ r → r < h → j < c → (rkS h G c).2 r j = 0) ∧ ∀ (α : Nat → FK) (d : Nat), (∀ r, r < h → fc (G r d) = fs d (fun j => α j * fc (G r j))) → ∀ r, (rkS h G c).1 ≤ r → r < h → fc ((rkS h G c).2 r d) = fs d (fun j => α j * fc ((rkS h G c).2 r j)) := by
  intro c
  induction c with
  | zero => exact ⟨fun r j _ _ hj => absurd hj (Nat.not_lt_zero j), fun α d hd r _ hr => hd r hr⟩
  | succ c ih =>
    have hb : ∀ k j, k < h → (rkS h G c).2 k j < 10007 := fun k j hk => rk_lt (w := j + 1) (fun k j hk _ => hG k j hk) c k j hk (Nat.lt_succ_self j)
    have hfh := (rk_le (h := h) (G := G) c).1
    rw [rkS]
    by_cases e : gfi (rkS h G c).2 h (rkS h G c).1 c = h ∨ h ≤ (rkS h G c).1
    · rw [if_pos e]
      refine ⟨fun r j h1 h2 h3 => ?_, ih.2⟩
      by_cases e2 : j = c
      · rcases e with e | e
        · rw [e2]
          exact (gfi_spec hfh).1 r h1 (by rw [e]; exact h2)
        · omega
      · exact ih.1 r j h1 h2 (by omega)
    · rw [if_neg e]
      obtain ⟨g1, g2⟩ := gfi_le (G := (rkS h G c).2) (c := c) hfh
      have g3 := (gfi_spec (G := (rkS h G c).2) (c := c) hfh).2 (by omega)
      generalize gfi (rkS h G c).2 h (rkS h G c).1 c = i at *
      generalize hq : rkS h G c = q at *
      obtain ⟨f, G'⟩ := q
      dsimp only at ih hb hfh e g1 g3 ⊢
      have e1 : ¬ i = h := fun u => e (Or.inl u)
      have e2 : ¬ h ≤ f := fun u => e (Or.inr u)
      have hone := fc_rcp (x := G' i c) (Nat.pos_of_ne_zero g3) (hb i c (by omega))
      have hrow : ∀ r, f + 1 ≤ r → r < h → ∃ q, f ≤ q ∧ q < h ∧ ∀ j, fc (gel G' f i c r j) = fc (G' q j) - fc (G' q c) * fc (rcp (G' i c)) * fc (G' i j) := by
        intro r hr1 hr2
        refine ⟨if r = i then f else r, ?_, ?_, fun j => ?_⟩
        · by_cases u : r = i
          · rw [if_pos u]; exact Nat.le_refl f
          · rw [if_neg u]; omega
        · by_cases u : r = i
          · rw [if_pos u]; omega
          · rw [if_neg u]; exact hr2
        · have hs : gsw G' f i r = G' (if r = i then f else r) := by
            unfold gsw
            rw [if_neg (by omega)]
            by_cases u : r = i
            · rw [if_pos u, if_pos u]
            · rw [if_neg u, if_neg u]
          unfold gel
          rw [if_pos (by omega), hs, fc_mod, fc_add, fc_mul, fc_mod, fc_mul, fc_sub (Nat.le_of_lt rcp_lt)]
          exact k_ge
      refine ⟨fun r j h1 h2 h3 => ?_, fun α d hd r h1 h2 => ?_⟩
      · obtain ⟨q, q1, q2, q3⟩ := hrow r h1 h2
        have hlt : gel G' f i c r j < 10007 := by
          unfold gel
          rw [if_pos (by have : f + 1 ≤ r := h1; omega)]
          exact mlt _
        refine (fc_z hlt).mp ?_
        rw [q3]
        by_cases u : j = c
        · rw [u]
          exact k_el0 hone
        · rw [ih.1 q j q1 q2 (by omega), ih.1 i j g1 (by omega) (by omega), fc_0]
          exact k_00
      · obtain ⟨q, q1, q2, q3⟩ := hrow r h1 h2
        show fc (gel G' f i c r d) = fs d (fun j => α j * fc (gel G' f i c r j))
        rw [q3, ih.2 α d hd q q1 q2, ih.2 α d hd i g1 (by omega), fs_c (f := fun j => α j * fc (gel G' f i c r j)) (g := fun j => α j * fc (G' q j) - (fc (G' q c) * fc (rcp (G' i c))) * (α j * fc (G' i j))) (fun j _ => by rw [q3]; exact k_el2), fs_sub, fs_mul]
theorem rk_dep (hG : ∀ k j, k < h → G k j < 10007) {d : Nat} {α : Nat → FK} (hd : ∀ r, r < h → fc (G r d) = fs d (fun j => α j * fc (G r j))) : (rkS h G (d + 1)).1 = (rkS h G d).1 := by
  obtain ⟨i1, i2⟩ := rk_inv hG d
  have hfh := (rk_le (h := h) (G := G) d).1
  have hb : ∀ k j, k < h → (rkS h G d).2 k j < 10007 := fun k j hk => rk_lt (w := j + 1) (fun k j hk _ => hG k j hk) d k j hk (Nat.lt_succ_self j)
  rw [rkS, if_pos]
  by_cases e : h ≤ (rkS h G d).1
  · exact Or.inr e
  · left
    unfold gfi
    rw [fnz_of (Nat.le_refl _) (fun k hk => ?_) (fun u => absurd u (Nat.lt_irrefl _))]
    · omega
    · refine (fc_z (hb _ _ (by omega))).mp ?_
      rw [i2 α d hd _ (by omega) (by omega)]
      refine fs_0 (fun j hj => ?_)
      rw [i1 _ j (by omega) (by omega) hj, fc_0]
      exact k_mz
end RKD
theorem fs_1 {f : Nat → FK} : fs 1 f = 0 + f 0 := rfl
theorem fs_2 {f : Nat → FK} : fs 2 f = 0 + f 0 + f 1 := rfl
theorem tt_s {A : Au} {k j : Nat} : fc (ttV A (k + 1) j) = fs A.1 (fun i => fc (ttV A k i) * (fc (A.2.2.2 0 i j) + fc (A.2.2.2 1 i j))) := by
  show fc (stpB A 2 (ttV A k) j) = _
  unfold stpB
  rw [if_pos rfl, fc_mod, fc_nsum]
  exact fs_c (fun i _ => by rw [fc_mul, fc_add])
theorem tot1 {A : Au} (h1 : A.1 = 1) (k : Nat) : fc (wtA A (ttV A (k + 1))) = (fc (A.2.2.2 0 0 0) + fc (A.2.2.2 1 0 0)) * fc (wtA A (ttV A k)) := by
  have e0 : fc (ttV A (k + 1) 0) = 0 + fc (ttV A k 0) * (fc (A.2.2.2 0 0 0) + fc (A.2.2.2 1 0 0)) := by rw [tt_s, h1, fs_1]
  have w : ∀ k, fc (wtA A (ttV A k)) = 0 + fc (ttV A k 0) * fc (A.2.2.1 0) := fun k => by rw [fc_wtA, h1, fs_1]
  rw [w, w, e0]
  exact k_ts
theorem tot2 {A : Au} (h2 : A.1 = 2) (k : Nat) : fc (wtA A (ttV A (k + 2))) = ((fc (A.2.2.2 0 0 0) + fc (A.2.2.2 1 0 0)) + (fc (A.2.2.2 0 1 1) + fc (A.2.2.2 1 1 1))) * fc (wtA A (ttV A (k + 1))) + ((fc (A.2.2.2 0 0 1) + fc (A.2.2.2 1 0 1)) * (fc (A.2.2.2 0 1 0) + fc (A.2.2.2 1 1 0)) - (fc (A.2.2.2 0 0 0) + fc (A.2.2.2 1 0 0)) * (fc (A.2.2.2 0 1 1) + fc (A.2.2.2 1 1 1))) * fc (wtA A (ttV A k)) := by
  have e0 : ∀ k, fc (ttV A (k + 1) 0) = 0 + fc (ttV A k 0) * (fc (A.2.2.2 0 0 0) + fc (A.2.2.2 1 0 0)) + fc (ttV A k 1) * (fc (A.2.2.2 0 1 0) + fc (A.2.2.2 1 1 0)) := fun k => by rw [tt_s, h2, fs_2]
  have e1 : ∀ k, fc (ttV A (k + 1) 1) = 0 + fc (ttV A k 0) * (fc (A.2.2.2 0 0 1) + fc (A.2.2.2 1 0 1)) + fc (ttV A k 1) * (fc (A.2.2.2 0 1 1) + fc (A.2.2.2 1 1 1)) := fun k => by rw [tt_s, h2, fs_2]
  have w : ∀ k, fc (wtA A (ttV A k)) = 0 + fc (ttV A k 0) * fc (A.2.2.1 0) + fc (ttV A k 1) * fc (A.2.2.1 1) := fun k => by rw [fc_wtA, h2, fs_2]
  rw [w (k + 2), w (k + 1), w k, e0 (k + 1), e1 (k + 1), e0 k, e1 k]
  exact k_ch
/-- as many columns as states, or more: the next one depends on them -/
theorem rec_ok {A : Au} (h1 : 1 ≤ A.1) (h2 : A.1 ≤ 2) {d : Nat} (hd : A.1 ≤ d) : (rkS 31 (rcG A) (d + 1)).1 = (rkS 31 (rcG A) d).1 := by
  have hG : ∀ k j, k < 31 → rcG A k j < 10007 := fun k j _ => wtA_lt
  rcases (by omega : A.1 = 1 ∨ A.1 = 2) with e | e
  · refine rk_dep hG (α := fun j => if j = d - 1 then fc (A.2.2.2 0 0 0) + fc (A.2.2.2 1 0 0) else 0) (fun r _ => ?_)
    show fc (rcG A r d) = fs d (fun j => (if j = d - 1 then fc (A.2.2.2 0 0 0) + fc (A.2.2.2 1 0 0) else 0) * fc (rcG A r j))
    rw [fs_at (n := d) (k := d - 1) (a := fun j => (fc (A.2.2.2 0 0 0) + fc (A.2.2.2 1 0 0)) * fc (rcG A r j)) (by omega) (fun j _ => ?_)]
    · show fc (wtA A (ttV A (r + d))) = _ * fc (wtA A (ttV A (r + (d - 1))))
      rw [← tot1 e, show r + (d - 1) + 1 = r + d by omega]
    · by_cases u : j = d - 1
      · rw [if_pos u, if_pos u]
      · rw [if_neg u, if_neg u]
        exact k_zm
  · have ht := tot2 e
    generalize ((fc (A.2.2.2 0 0 0) + fc (A.2.2.2 1 0 0)) + (fc (A.2.2.2 0 1 1) + fc (A.2.2.2 1 1 1))) = x at ht
    generalize ((fc (A.2.2.2 0 0 1) + fc (A.2.2.2 1 0 1)) * (fc (A.2.2.2 0 1 0) + fc (A.2.2.2 1 1 0)) - (fc (A.2.2.2 0 0 0) + fc (A.2.2.2 1 0 0)) * (fc (A.2.2.2 0 1 1) + fc (A.2.2.2 1 1 1))) = y at ht
    refine rk_dep hG (α := fun j => (if j = d - 1 then x else 0) + if j = d - 2 then y else 0) (fun r _ => ?_)
    show fc (rcG A r d) = fs d (fun j => ((if j = d - 1 then x else 0) + if j = d - 2 then y else 0) * fc (rcG A r j))
    have ht2 := ht (r + (d - 2))
    rw [show r + (d - 2) + 2 = r + d by omega, show r + (d - 2) + 1 = r + (d - 1) by omega] at ht2
    rw [fs_c (n := d) (g := fun j => (if j = d - 1 then x * fc (rcG A r j) else 0) + (if j = d - 2 then y * fc (rcG A r j) else 0)) (fun j _ => ?_), fs_add, fs_one, fs_one, if_pos (by omega), if_pos (by omega)]
    · exact ht2
    · by_cases u : j = d - 1
      · rw [if_pos u, if_pos u, if_neg (by omega), if_neg (by omega)]
        exact k_i1
      · rw [if_neg u, if_neg u]
        by_cases u2 : j = d - 2
        · rw [if_pos u2, if_pos u2]
          exact k_i2
        · rw [if_neg u2, if_neg u2]
          exact k_i0
