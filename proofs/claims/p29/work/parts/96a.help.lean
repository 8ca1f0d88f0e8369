/-! ===== what the law's helpers need ===== -/
theorem exl_b {A : Au} : ∀ t k, k < (exl A t).1 → (exl A t).2.1 k + 1 < 2 ^ (k + 1) := by
  intro t
  induction t with
  | zero =>
    intro k hk
    by_cases e : fnz (rd bs0 A.2.1 bs0.1).1 A.1 = A.1
    · have : exl A 0 = bs0 := plc_old e
      rw [this] at hk
      exact absurd hk (Nat.not_lt_zero k)
    · obtain ⟨n1, n2, -⟩ := plc_new (w := A.1) (B := bs0) (v := A.2.1) (word := 0) e
      have n1 : (exl A 0).1 = 1 := n1
      have n2 : (exl A 0).2.1 0 = 0 := n2
      have e0 : k = 0 := by omega
      rw [e0, n2]
      decide
  | succ t ih =>
    intro k hk
    rw [exl_s] at hk ⊢
    by_cases e : t / 2 < (exl A t).1
    · rw [if_pos e] at hk ⊢
      have hx := plc_ext (w := A.1) (B := exl A t) (v := stpA A (t % 2) ((exl A t).2.2.2.1 (t / 2))) (word := 2 * (exl A t).2.1 (t / 2) + 1 + t % 2)
      by_cases e3 : fnz (rd (exl A t) (stpA A (t % 2) ((exl A t).2.2.2.1 (t / 2))) (exl A t).1).1 A.1 = A.1
      · rw [plc_old e3] at hk ⊢
        exact ih k hk
      · obtain ⟨n1, n2, -⟩ := plc_new (word := 2 * (exl A t).2.1 (t / 2) + 1 + t % 2) e3
        by_cases e4 : k = (exl A t).1
        · rw [e4, n2]
          have h1 := ih (t / 2) e
          have h2 : 2 ^ (t / 2 + 1 + 1) ≤ 2 ^ ((exl A t).1 + 1) := Nat.pow_le_pow_right (by decide) (by omega)
          have h3 : 2 ^ (t / 2 + 1 + 1) = 2 ^ (t / 2 + 1) * 2 := Nat.pow_succ ..
          omega
        · rw [(hx.2 k (by omega)).1]
          exact ih k (by omega)
    · rw [if_neg e] at hk ⊢
      exact ih k hk
theorem ex_b {A : Au} {k : Nat} (hk : k < (expl A).1) (h12 : (expl A).1 ≤ 12) : (expl A).2.1 k < 8192 := by
  have h1 : (expl A).2.1 k + 1 < 2 ^ (k + 1) := by
    rw [expl_eq] at hk ⊢
    exact exl_b 48 k hk
  have h2 : 2 ^ (k + 1) ≤ 2 ^ 13 := Nat.pow_le_pow_right (by decide) (by omega)
  have h3 : (2 : Nat) ^ 13 = 8192 := rfl
  omega
/-- a script's number, and a number of it below a bound -/
def cV (xs : Nat → Int32) (L k : Nat) : Int32 := if k < L then xs k else 739982445 * (nI k + 461)
def uV (v : Int32) (n : Nat) : Nat := (v &&& 2147483647).toInt.toNat % n
theorem up_nI (v : Int32) : ∃ x, x < 2147483648 ∧ v &&& 2147483647 = nI x := by
  have h1 : 0 ≤ (v &&& 2147483647).toInt := by
    refine BitVec.toInt_nonneg_of_msb_false (x := (v &&& 2147483647).toBitVec) ?_
    rw [Int32.toBitVec_and, BitVec.msb_and, show (2147483647 : Int32).toBitVec.msb = false by decide, Bool.and_false]
  have h2 : (v &&& 2147483647).toInt ≤ 2147483647 := by
    have := Int32.toInt_lt (v &&& 2147483647)
    omega
  obtain ⟨k, hk, e⟩ := in_nI (n := 2147483647) h1 h2 (by omega)
  exact ⟨k, by omega, e⟩
section HLP
variable {α β : Type} {Γ : zSh} {N R : Mem} {J : Nat → Nat → Int64} {o b L k n : Nat} {xs : Nat → Int32} {σ : zSt} {P : β → Prop}
theorem f_up (v : Int32) (h0 : 0 < n) (hn : n < 2147483648) : f_L_up Γ v (nI n) σ = some (nI (uV v n), σ) ∧ uV v n < n := by
  obtain ⟨x, hx, e⟩ := up_nI v
  have hu : uV v n = x % n := by
    unfold uV
    rw [e, nI_toInt hx]
    rfl
  refine ⟨?_, by rw [hu]; exact Nat.mod_lt _ h0⟩
  unfold f_L_up
  rw [e, c_rmI hx h0 hn, hu]
theorem f_cell (hL : L ≤ 260) (hk : k < 1000) : f_L_cell xs L b Γ b (nI k) σ = some (cV xs L k, σ) := by
  unfold f_L_cell scL
  rw [if_pos rfl, show Int32.ofNat L = nI L from rfl]
  dsimp only
  unfold cV f_L_cell_L20
  by_cases e : k < L
  · rw [ile_f e (by omega), if_pos e]
    unfold scI
    rw [if_pos ⟨rfl, c_inb e (by omega)⟩, nI_clamp (by omega)]
  · rw [ile_t (by omega) (by omega), if_neg e]
theorem okg_i {x : β} (h : P x) : OkG (some x) P := ⟨x, rfl, h⟩
theorem okg_bnd {y : Option (α × zSt)} {K : α → zSt → Option β} {P1 : α × zSt → Prop} (h : OkG y P1) (k : ∀ a σ, P1 (a, σ) → OkG (K a σ) P) : OkG (bnd y K) P := by
  obtain ⟨⟨a, σ⟩, e, h1⟩ := h
  rw [e]
  exact k a σ h1
theorem okg_lb1 {y : Option (α × zSt)} {K : α → zSt → Option β} {P1 : α × zSt → Prop} (h : OkG y P1) (k : ∀ a σ, P1 (a, σ) → OkG (K a σ) P) : OkG (lb1 y K) P := by
  obtain ⟨⟨a, σ⟩, e, h1⟩ := h
  rw [e]
  exact k a σ h1
theorem okg_loop {S B : Type} {f : S → Option (S ⊕ B)} (q : Nat → S → Prop) (p : B → Prop) (n F : Nat) (s : S) (h0 : q 0 s) (hF : n < F) (hs : ∀ i s, i ≤ n → q i s → (i < n → OkG (f s) (fun r => ∃ s', r = .inl s' ∧ q (i + 1) s')) ∧ (i = n → OkG (f s) (fun r => ∃ b, r = .inr b ∧ p b))) : OkG (loopM f F s) p := by
  obtain ⟨b, e, hb⟩ := loopM_e q p n (fun i s hi hq => by
    rcases (by omega : i < n ∨ i = n) with u | u
    · obtain ⟨r, e, s', rfl, h1⟩ := (hs i s hi hq).1 u
      exact Or.inl ⟨u, s', e, h1⟩
    · obtain ⟨r, e, b, rfl, h1⟩ := (hs i s hi hq).2 u
      exact Or.inr ⟨b, e, h1⟩) n 0 F s (by omega) h0 hF
  exact ⟨b, e, hb⟩
theorem c_b1 {x : Option β} : chk (isB (nI 1)) x = x := rfl
theorem m1_eq {x y : β} : (if (-1 : Int32) = -1 then x else y) = x := if_pos rfl
theorem lt0_f {x y : β} (h : n < 2147483648) : (if nI n < nI 0 then x else y) = y := ilt_f (Nat.zero_le n) h
theorem eq0_f {x y : β} : (if nI 1 = nI 0 then x else y) = y := ieq_f (by omega) (by omega) (by omega)
end HLP
/-! the series of the law -/
section LWS
variable {X Y Z : Au} {k : Nat}
theorem com_sum (hk : k = 1 ∨ k = 2) : sEq (comA X (sumA Y Z) k) (sumA (comA X Y k) (comA X Z k)) := by
  intro w
  rcases hk with rfl | rfl
  · show ww (hadA X (sumA Y Z)) w = ww (sumA (hadA X Y) (hadA X Z)) w
    rw [ww_had, ww_sum, ww_sum, ww_had, ww_had]
    exact left_d
  · show ww (cauA X (sumA Y Z)) w = ww (sumA (cauA X Y) (cauA X Z)) w
    rw [ww_cau, ww_sum, ww_sum, ww_cau, ww_cau, sp_c (g := fun v u => ww X u * ww Y v + ww X u * ww Z v) (fun v u => by rw [ww_sum]; exact left_d), sp_add]
    exact left_e
theorem com_com (hk : k < 2) : sEq (comA X Y k) (comA Y X k) := by
  intro w
  rcases (by omega : k = 0 ∨ k = 1) with rfl | rfl
  · show ww (sumA X Y) w = ww (sumA Y X) w
    rw [ww_sum, ww_sum]
    exact add_c
  · show ww (hadA X Y) w = ww (hadA Y X) w
    rw [ww_had, ww_had]
    exact k_comm
theorem com_n (hk : k < 2) : (comA X Y k).1 = (comA Y X k).1 := by
  rcases (by omega : k = 0 ∨ k = 1) with rfl | rfl
  · exact Nat.add_comm _ _
  · exact Nat.mul_comm _ _
theorem com_rev (hk : k < 2) : sEq (revA (comA X Y k)) (comA (revA X) (revA Y) k) := by
  intro w
  rcases (by omega : k = 0 ∨ k = 1) with rfl | rfl
  · show ww (revA (sumA X Y)) w = ww (sumA (revA X) (revA Y)) w
    rw [ww_rev, ww_sum, ww_sum, ww_rev, ww_rev]
  · show ww (revA (hadA X Y)) w = ww (hadA (revA X) (revA Y)) w
    rw [ww_rev, ww_had, ww_had, ww_rev, ww_rev]
theorem com_le (hk : k < 3) (hX : X.1 ≤ 2) {m : Nat} (hY : Y.1 ≤ m) (hm : 2 ≤ m) : (comA X Y k).1 ≤ 2 * m := by
  rcases (by omega : k = 0 ∨ k = 1 ∨ k = 2) with rfl | rfl | rfl
  · show X.1 + Y.1 ≤ 2 * m
    omega
  · exact Nat.mul_le_mul hX hY
  · show X.1 + Y.1 ≤ 2 * m
    omega
theorem sca_inv {c : Nat} (h1 : 1 ≤ c) (h2 : c ≤ 10006) : sEq (scaA (scaA X c) (rcp c)) X := by
  intro w
  rw [ww_sca, ww_sca]
  exact m_inv (fc_rcp (x := c) (by omega) (by omega))
theorem sca_neg (w : FW) : ww (sumA X (scaA X 10006)) w = 0 := by
  rw [ww_sum, ww_sca, show fc 10006 = -1 by decide]
  exact add_neg
theorem min_zero (ok : okA X) (h24 : X.1 ≤ 24) (h : ∀ w, ww X w = 0) : (minA X).1 = 0 := by
  have h0 : okA (zerA 0) := fun i hi => absurd hi (Nat.not_lt_zero i)
  have h1 := min_n ok h24 h0 (Nat.zero_le 24) (fun w => by rw [h]; rfl)
  have h2 := minA_le h0
  have h3 : (zerA 0).1 = 0 := rfl
  omega
theorem sca_wt {c d : Nat} : wtA (scaA X c) (vW (scaA X c) (scaA X c).2.1 d) = wtA X (vW X X.2.1 d) * c % 10007 := fc_inj wtA_lt (mlt _) (by rw [ww_code, ww_sca, fc_mod, fc_mul, ww_code])
theorem sca_tot {c d : Nat} : wtA (scaA X c) (ttV (scaA X c) d) = wtA X (ttV X d) * c % 10007 := fc_inj wtA_lt (mlt _) (by rw [ww_tot, fc_mod, fc_mul, ww_tot, ← TS_mulr, show ww (scaA X c) = fun w => ww X w * fc c from funext fun w => ww_sca])
end LWS
theorem l_mul {β : Type} {x c : Nat} (hx : x < 10007) (hc : c < 10007) {f : Int64 → Option β} : rmL (((nI x).toInt64) * ((nI c).toInt64)) 10007 f = f (lN (x * c % 10007)) := by
  have hp := pmul hx hc
  unfold rmL
  rw [if_pos (by decide), i_l (by omega), i_l (by omega), lN_mul, show (10007 : Int64) = lN 10007 from rfl, pk_lRem (by omega) (by omega) (by omega)]
