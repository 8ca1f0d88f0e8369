/-! ===== a difference and a sum have bases alike ===== -/
def chkC : Nat → Nat → Bool
  | 0, x => x == 0 || decide (10007 ≤ x) || (rcF 14 1 (10007 - x) 10005 + rcF 14 1 x 10005 == 10007)
  | d + 1, x => chkC d x && chkC d (x + 2 ^ d)
theorem chkC_all : chkC 14 0 = true := by decide +kernel
theorem chkC_at : ∀ d x y, chkC d x = true → x ≤ y → y < x + 2 ^ d → chkC 0 y = true := by
  intro d
  induction d with
  | zero =>
    intro x y h h1 h2
    have : (2 : Nat) ^ 0 = 1 := rfl
    obtain rfl : x = y := by omega
    exact h
  | succ d ih =>
    intro x y h h1 h2
    have e : (2 : Nat) ^ (d + 1) = 2 ^ d * 2 := Nat.pow_succ ..
    unfold chkC at h
    rw [Bool.and_eq_true] at h
    by_cases f : y < x + 2 ^ d
    · exact ih x y h.1 h1 f
    · exact ih (x + 2 ^ d) y h.2 (by omega) (by omega)
theorem rcF_rcp {x : Nat} : rcF 14 1 x 10005 = rcp x := by
  have := rcF_eq (x := x) 14 0
  rw [Nat.pow_zero, Nat.div_one, Nat.zero_add] at this
  exact this
theorem rcp_neg {x : Nat} (h0 : 0 < x) (h1 : x < 10007) : rcp (10007 - x) + rcp x = 10007 := by
  have h := chkC_at 14 0 x chkC_all (by omega) (by
    have : (2 : Nat) ^ 14 = 16384 := rfl
    omega)
  unfold chkC at h
  rw [rcF_rcp, rcF_rcp] at h
  simp only [Bool.or_eq_true, beq_iff_eq, decide_eq_true_eq] at h
  omega
def ng (a : Nat) : Nat := (10007 - a) % 10007
theorem ng_lt {a : Nat} : ng a < 10007 := mlt _
theorem ng_zero {a : Nat} (h : a < 10007) : ng a = 0 ↔ a = 0 := by
  unfold ng
  omega
theorem ng_add {a : Nat} (h : a < 10007) : (ng a + a) % 10007 = 0 := by
  unfold ng
  omega
theorem ng_ng {a : Nat} (h : a < 10007) : ng (ng a) = a := by
  unfold ng
  omega
theorem ng_pos {a : Nat} (h : a < 10007) (h0 : a ≠ 0) : ng a = 10007 - a := by
  unfold ng
  omega
/-- a number that makes up 0 with another is its negative -/
theorem ng_of {a b : Nat} (h : (a + b) % 10007 = 0) : a % 10007 = ng (b % 10007) := by
  unfold ng
  omega
theorem mul_l {a b : Nat} (h : a ≤ 10007) : (10007 - a) * b + a * b = 10007 * b := by
  rw [← Nat.add_mul, Nat.sub_add_cancel h]
theorem ng_mul {a b : Nat} (h : a < 10007) : (ng a * b + a * b) % 10007 = 0 := by
  rw [← Nat.add_mul, Nat.mul_mod, ng_add h, Nat.zero_mul]
theorem mul_ng {a b : Nat} (h : b < 10007) : (a * ng b + a * b) % 10007 = 0 := by
  rw [← Nat.mul_add, Nat.mul_mod, ng_add h, Nat.mul_zero]
theorem mod_c {a b c : Nat} (h : (a + c) % 10007 = 0) (k : (b + c) % 10007 = 0) : a % 10007 = b % 10007 := by omega
def tw (m : Nat) (v : Nat → Nat) (j : Nat) : Nat := if j < m then v j else ng (v j)
theorem tw_zero {m : Nat} {v : Nat → Nat} {j : Nat} (h : v j < 10007) : tw m v j = 0 ↔ v j = 0 := by
  unfold tw
  by_cases e : j < m
  · rw [if_pos e]
  · rw [if_neg e]; exact ng_zero h
theorem fnz_zero {f g : Nat → Nat} : ∀ w, (∀ j, j < w → (f j = 0 ↔ g j = 0)) → fnz f w = fnz g w := by
  intro w
  induction w with
  | zero => exact fun _ => rfl
  | succ w ih =>
    intro h
    unfold fnz
    rw [ih (fun j hj => h j (by omega))]
    by_cases e : f w = 0
    · rw [if_pos e, if_pos ((h w (by omega)).mp e)]
    · rw [if_neg e, if_neg (fun q => e ((h w (by omega)).mpr q))]
/-- two bases, the one twisted -/
def tB (m w : Nat) (B D : Bs) : Prop := D.1 = B.1 ∧ ∀ k, k < B.1 → D.2.1 k = B.2.1 k ∧ D.2.2.1 k = B.2.2.1 k ∧ ∀ j, j < w → D.2.2.2.1 k j = tw m (B.2.2.2.1 k) j ∧ D.2.2.2.2.1 k j = if B.2.2.1 k < m then tw m (B.2.2.2.2.1 k) j else ng (tw m (B.2.2.2.2.1 k) j)
theorem tB_rd {m w : Nat} {B D : Bs} (hI : bI w B) (h : tB m w B D) {v u : Nat → Nat} (hv : ∀ j, j < w → v j < 10007) (hu : ∀ j, j < w → u j = tw m v j) : ∀ k, k ≤ B.1 → ∀ j, j < w → (rd D u k).1 j = tw m (rd B v k).1 j := by
  intro k
  induction k with
  | zero => exact fun _ j hj => hu j hj
  | succ k ih =>
    intro hk j hj
    have i := ih (by omega)
    obtain ⟨_, h2, h3⟩ := h.2 k (by omega)
    have hp := (hI.1 k (by omega)).1
    have hl := (rd_lt hI hv k (by omega)).1
    have hf := hl _ hp
    have hr := hl j hj
    have hL := (hI.2.2 k j (by omega)).1
    have hf' := i _ hp
    have hLj := (h3 j hj).2
    have hrj := i j hj
    rw [rd, rd, h2]
    have hz : (rd D u k).1 (B.2.2.1 k) = 0 ↔ (rd B v k).1 (B.2.2.1 k) = 0 := by
      rw [hf']; exact tw_zero hf
    by_cases e : (rd B v k).1 (B.2.2.1 k) = 0
    · rw [if_pos e, if_pos (hz.mpr e)]
      exact hrj
    · rw [if_neg e, if_neg (fun q => e (hz.mp q))]
      show ((rd D u k).1 j + (10007 - (rd D u k).1 (B.2.2.1 k)) * D.2.2.2.2.1 k j) % 10007 = if j < m then ((rd B v k).1 j + (10007 - (rd B v k).1 (B.2.2.1 k)) * B.2.2.2.2.1 k j) % 10007 else ng (((rd B v k).1 j + (10007 - (rd B v k).1 (B.2.2.1 k)) * B.2.2.2.2.1 k j) % 10007)
      rw [hf', hLj, hrj]
      unfold tw
      generalize (rd B v k).1 j = r at *
      generalize (rd B v k).1 (B.2.2.1 k) = f at *
      generalize B.2.2.2.2.1 k j = L at *
      have m1 := mul_l (b := L) (show f ≤ 10007 by omega)
      have m2 := mul_ng (a := 10007 - f) hL
      have m3 := mul_ng (a := f) hL
      have n1 := ng_add hr
      by_cases e1 : B.2.2.1 k < m
      · rw [if_pos e1, if_pos e1]
        by_cases e2 : j < m
        · rw [if_pos e2, if_pos e2, if_pos e2]
        · rw [if_neg e2, if_neg e2, if_neg e2]
          refine ng_of ?_
          generalize (10007 - f) * ng L = a1 at *
          generalize (10007 - f) * L = a2 at *
          omega
      · rw [if_neg e1, if_neg e1, ng_pos hf e, show 10007 - (10007 - f) = f by omega]
        by_cases e2 : j < m
        · rw [if_pos e2, if_pos e2, if_pos e2]
          generalize f * ng L = a1 at *
          generalize (10007 - f) * L = a2 at *
          generalize f * L = a3 at *
          omega
        · rw [if_neg e2, if_neg e2, if_neg e2, ng_ng hL]
          refine ng_of ?_
          generalize (10007 - f) * L = a2 at *
          generalize f * L = a3 at *
          omega
theorem tB_plc {m w : Nat} {B D : Bs} (hI : bI w B) (h : tB m w B D) {v u : Nat → Nat} (hv : ∀ j, j < w → v j < 10007) (hu : ∀ j, j < w → u j = tw m v j) {word : Nat} : tB m w (plc w B v word) (plc w D u word) := by
  have hr := tB_rd hI h hv hu B.1 (Nat.le_refl _)
  have hl := (rd_lt hI hv B.1 (Nat.le_refl _)).1
  have hf : fnz (rd D u D.1).1 w = fnz (rd B v B.1).1 w := by
    rw [h.1]
    exact fnz_zero w (fun j hj => by rw [hr j hj]; exact tw_zero (hl j hj))
  have n3 := fnz_le (f := (rd B v B.1).1) w
  obtain ⟨n1, n2⟩ := fnz_spec (f := (rd B v B.1).1) w
  unfold plc
  rw [hf, h.1]
  by_cases e : fnz (rd B v B.1).1 w = w
  · rw [if_pos e, if_pos e]; exact h
  · rw [if_neg e, if_neg e]
    generalize fnz (rd B v B.1).1 w = i at *
    have hi : i < w := by omega
    have hx := hl i hi
    have hx0 := n2 hi
    refine ⟨rfl, fun k hk => ?_⟩
    have hk' : k < B.1 + 1 := hk
    dsimp only
    by_cases e2 : k = B.1
    · subst e2
      simp only [up_at, true_and]
      refine fun j hj => ⟨hu j hj, ?_⟩
      rw [hr j hj, hr i hi]
      have hrj := hl j hj
      have hs := rcp_neg (Nat.pos_of_ne_zero hx0) hx
      unfold tw
      dsimp only
      have q1 := ng_mul (b := rcp ((rd B v B.1).1 i)) hrj
      have q2 := mul_l (a := rcp ((rd B v B.1).1 i)) (b := (rd B v B.1).1 j) (by omega)
      have q3 := mul_l (a := rcp ((rd B v B.1).1 i)) (b := ng ((rd B v B.1).1 j)) (by omega)
      by_cases e1 : i < m
      · rw [if_pos e1, if_pos e1]
        by_cases e2 : j < m
        · rw [if_pos e2, if_pos e2]
        · rw [if_neg e2, if_neg e2]
          exact ng_of q1
      · rw [if_neg e1, if_neg e1, ng_pos hx hx0, show rcp (10007 - (rd B v B.1).1 i) = 10007 - rcp ((rd B v B.1).1 i) by omega]
        generalize rcp ((rd B v B.1).1 i) = s at *
        generalize (rd B v B.1).1 j = r at *
        by_cases e2 : j < m
        · rw [if_pos e2, if_pos e2]
          refine ng_of ?_
          rw [Nat.mul_comm r (10007 - s), Nat.mul_comm r s, q2]
          omega
        · rw [if_neg e2, if_neg e2, ng_ng (mlt _)]
          rw [Nat.mul_comm (ng r) (10007 - s)]
          rw [Nat.mul_comm (ng r) s] at q1
          generalize (10007 - s) * ng r = a1 at *
          generalize s * ng r = a2 at *
          generalize r * s = a3 at *
          omega
    · simp only [up_ne e2]
      exact h.2 k (by omega)
theorem nneg {f g : Nat → Nat} : ∀ n, (∀ i, i < n → f i < 10007) → (nsum n (fun i => ng (f i) * g i) + nsum n (fun i => f i * g i)) % 10007 = 0 := by
  intro n
  induction n with
  | zero => exact fun _ => rfl
  | succ n ih =>
    intro h
    have a := ih (fun i hi => h i (by omega))
    have b := ng_mul (b := g n) (h n (by omega))
    show (nsum n (fun i => ng (f i) * g i) + ng (f n) * g n + (nsum n (fun i => f i * g i) + f n * g n)) % 10007 = 0
    generalize nsum n (fun i => ng (f i) * g i) = x at *
    generalize nsum n (fun i => f i * g i) = y at *
    generalize ng (f n) * g n = z at *
    generalize f n * g n = t at *
    omega
section TW
variable {X Y : Au}
theorem tw_stp {l : Nat} {v u : Nat → Nat} (hv : ∀ j, j < X.1 + Y.1 → v j < 10007) (hu : ∀ j, j < X.1 + Y.1 → u j = tw X.1 v j) {j : Nat} (hj : j < X.1 + Y.1) : stpA (difA X Y) l u j = tw X.1 (stpA (sumA X Y) l v) j := by
  have e0 : stpA (difA X Y) l u j = stpA (sumA X Y) l u j := rfl
  unfold tw
  rw [e0, stp_sum, stp_sum]
  by_cases e : j < X.1
  · rw [if_pos e, if_pos e, if_pos e]
    exact stpA_congr (fun i hi => by rw [hu i (by omega)]; unfold tw; rw [if_pos hi])
  · rw [if_neg e, if_neg e, if_neg e]
    refine ng_of ?_
    have := nneg (f := fun i => v (X.1 + i)) (g := fun i => Y.2.2.2 l i (j - X.1)) Y.1 (fun i hi => hv _ (by omega))
    rw [nsum_congr (f := fun i => u (X.1 + i) * Y.2.2.2 l i (j - X.1)) (g := fun i => ng (v (X.1 + i)) * Y.2.2.2 l i (j - X.1)) (fun i hi => by
      show u (X.1 + i) * _ = _
      rw [hu _ (by omega)]
      unfold tw
      rw [if_neg (by omega)])]
    exact this
theorem tB_exl (okX : okA X) (okY : okA Y) : ∀ t, tB X.1 (X.1 + Y.1) (exl (sumA X Y) t) (exl (difA X Y) t) := by
  have okS := sumA_ok okX okY
  intro t
  induction t with
  | zero =>
    refine tB_plc (w := X.1 + Y.1) bs0_I ⟨rfl, fun k hk => absurd hk (Nat.not_lt_zero k)⟩ (fun j hj => (okS j hj).1) (fun j hj => ?_)
    show (if j < X.1 then X.2.1 j else (10007 - Y.2.1 (j - X.1)) % 10007) = if j < X.1 then (if j < X.1 then X.2.1 j else Y.2.1 (j - X.1)) else ng (if j < X.1 then X.2.1 j else Y.2.1 (j - X.1))
    by_cases e : j < X.1
    · rw [if_pos e, if_pos e, if_pos e]
    · rw [if_neg e, if_neg e, if_neg e]
      rfl
  | succ t ih =>
    rw [exl, exl, ih.1]
    by_cases e : t / 2 < (exl (sumA X Y) t).1
    · rw [if_pos e, if_pos e]
      have hI := exl_I okS t
      obtain ⟨h1, h2, h3⟩ := ih.2 _ e
      rw [h1]
      exact tB_plc (w := X.1 + Y.1) hI ih (fun j _ => stpA_lt) (fun j hj => tw_stp (fun i hi => hI.2.1 _ i e hi) (fun i hi => (h3 i hi).1) hj)
    · rw [if_neg e, if_neg e]
      exact ih
theorem tw_expl (okX : okA X) (okY : okA Y) {y : Nat} (hy : y < 26) : (expl (difA X Y)).1 = (expl (sumA X Y)).1 ∧ ∀ k, k < (expl (sumA X Y)).1 → (expl (difA X Y)).2.1 k = (expl (sumA X Y)).2.1 k ∧ wtA (difA X Y) ((expl (difA X Y)).2.2.2.1 k) = endV (nI y) X (sumA X Y) ((expl (sumA X Y)).2.2.2.1 k) := by
  have h := tB_exl okX okY 48
  have hI := expl_I (sumA_ok okX okY)
  rw [← expl_eq, ← expl_eq] at h
  refine ⟨h.1, fun k hk => ?_⟩
  obtain ⟨h1, h2, h3⟩ := h.2 k hk
  refine ⟨h1, ?_⟩
  have hv := fun j hj => hI.2.1 k j hk hj
  generalize (expl (difA X Y)).2.2.2.1 k = u at *
  generalize (expl (sumA X Y)).2.2.2.1 k = v at *
  unfold endV
  rw [if_neg (nI_nm1 hy)]
  show nsum (X.1 + Y.1) (fun i => u i * (sumA X Y).2.2.1 i) % 10007 = (nsum X.1 (fun i => v i * X.2.2.1 i) % 10007 + (10007 - nsum (X.1 + Y.1 - X.1) (fun i => v (X.1 + i) * (sumA X Y).2.2.1 (X.1 + i)) % 10007)) % 10007
  rw [nsum_split, Nat.add_sub_cancel_left]
  have e1 : nsum X.1 (fun i => u i * (sumA X Y).2.2.1 i) = nsum X.1 (fun i => v i * X.2.2.1 i) := nsum_congr (fun i hi => by
    rw [(h3 i (by omega)).1]
    show (if i < X.1 then _ else _) * (if i < X.1 then _ else _) = _
    rw [if_pos hi, if_pos hi])
  have e2 : nsum Y.1 (fun i => u (X.1 + i) * (sumA X Y).2.2.1 (X.1 + i)) = nsum Y.1 (fun i => ng (v (X.1 + i)) * (sumA X Y).2.2.1 (X.1 + i)) := nsum_congr (fun i hi => by
    rw [(h3 (X.1 + i) (by omega)).1]
    unfold tw
    rw [if_neg (by omega)])
  have e3 := nneg (f := fun i => v (X.1 + i)) (g := fun i => (sumA X Y).2.2.1 (X.1 + i)) Y.1 (fun i hi => hv _ (show X.1 + i < X.1 + Y.1 by omega))
  rw [e1, e2]
  generalize nsum X.1 (fun i => v i * X.2.2.1 i) = a at *
  generalize nsum Y.1 (fun i => ng (v (X.1 + i)) * (sumA X Y).2.2.1 (X.1 + i)) = b at *
  generalize nsum Y.1 (fun i => v (X.1 + i) * (sumA X Y).2.2.1 (X.1 + i)) = c at *
  omega
end TW
