/-! ===== the basis grows at its end ===== -/
def ext (B B' : Bs) : Prop := B.1 ≤ B'.1 ∧ ∀ k, k < B.1 → B'.2.1 k = B.2.1 k ∧ B'.2.2.1 k = B.2.2.1 k ∧ B'.2.2.2.1 k = B.2.2.2.1 k ∧ B'.2.2.2.2.1 k = B.2.2.2.2.1 k ∧ B'.2.2.2.2.2 k = B.2.2.2.2.2 k
theorem ext.refl {B : Bs} : ext B B := ⟨Nat.le_refl _, fun _ _ => ⟨rfl, rfl, rfl, rfl, rfl⟩⟩
theorem ext.trans {B B' C : Bs} (h : ext B B') (k : ext B' C) : ext B C := ⟨Nat.le_trans h.1 k.1, fun i hi => by
  have a := h.2 i hi
  have b := k.2 i (Nat.lt_of_lt_of_le hi h.1)
  exact ⟨b.1.trans a.1, b.2.1.trans a.2.1, b.2.2.1.trans a.2.2.1, b.2.2.2.1.trans a.2.2.2.1, b.2.2.2.2.trans a.2.2.2.2⟩⟩
theorem plc_ext {w : Nat} {B : Bs} {v : Nat → Nat} {word : Nat} : ext B (plc w B v word) := by
  unfold plc
  by_cases e : fnz (rd B v B.1).1 w = w
  · rw [if_pos e]; exact ext.refl
  · rw [if_neg e]
    refine ⟨Nat.le_succ _, fun k hk => ?_⟩
    dsimp only
    rw [up_ne (by omega), up_ne (by omega), up_ne (by omega), up_ne (by omega), up_ne (by omega)]
    exact ⟨rfl, rfl, rfl, rfl, rfl⟩
theorem exl_ext1 {A : Au} {t : Nat} : ext (exl A t) (exl A (t + 1)) := by
  rw [exl]
  by_cases e : t / 2 < (exl A t).1
  · rw [if_pos e]; exact plc_ext
  · rw [if_neg e]; exact ext.refl
theorem exl_ext {A : Au} {t : Nat} : ∀ m, ext (exl A t) (exl A (t + m)) := by
  intro m
  induction m with
  | zero => exact ext.refl
  | succ m ih => exact ih.trans exl_ext1
theorem exl_stop {A : Au} {t : Nat} (h : (exl A t).1 ≤ t / 2) : ∀ m, exl A (t + m) = exl A t := by
  intro m
  induction m with
  | zero => rfl
  | succ m ih =>
    rw [show t + (m + 1) = (t + m) + 1 from rfl, exl, ih, if_neg (by omega)]
theorem exl_fin {A : Au} {t : Nat} (ok : okA A) (h24 : A.1 ≤ 24) (h : (exl A t).1 ≤ t / 2) : exl A t = expl A := by
  rw [expl_eq]
  have h48 := bI_le (exl_I ok 48)
  rcases Nat.le_total t 48 with e | e
  · have := exl_stop h (48 - t)
    rw [show t + (48 - t) = 48 by omega] at this
    exact this.symm
  · have := exl_stop (A := A) (t := 48) (by omega) (t - 48)
    rw [show 48 + (t - 48) = t by omega] at this
    exact this
theorem exl_to {A : Au} {t : Nat} (ok : okA A) (h24 : A.1 ≤ 24) : ext (exl A t) (expl A) := by
  rw [expl_eq]
  rcases Nat.le_total t 48 with e | e
  · have := exl_ext (A := A) (t := t) (48 - t)
    rw [show t + (48 - t) = 48 by omega] at this
    exact this
  · have h48 := bI_le (exl_I ok 48)
    have := exl_stop (A := A) (t := 48) (by omega) (t - 48)
    rw [show 48 + (t - 48) = t by omega] at this
    rw [this]
    exact ext.refl
theorem expl_I {A : Au} (ok : okA A) : bI A.1 (expl A) := by
  rw [expl_eq]
  exact exl_I ok 48
theorem rd_ext {B B' : Bs} (h : ext B B') {v : Nat → Nat} : ∀ k, k ≤ B.1 → rd B' v k = rd B v k := by
  intro k
  induction k with
  | zero => exact fun _ => rfl
  | succ k ih =>
    intro hk
    have e := h.2 k (by omega)
    rw [rd, rd, ih (by omega), e.2.1, e.2.2.2.1, e.2.2.2.2]
/-- nothing left: the rows behind change nothing -/
theorem rd_zero {w : Nat} {B : Bs} (h : bI w B) {v : Nat → Nat} {k : Nat} (hz : ∀ j, j < w → (rd B v k).1 j = 0) : ∀ m, k + m ≤ B.1 → rd B v (k + m) = rd B v k := by
  intro m
  induction m with
  | zero => exact fun _ => rfl
  | succ m ih =>
    intro hk
    have e := ih (by omega)
    rw [show k + (m + 1) = (k + m) + 1 from rfl, rd, e, if_pos (hz _ (h.1 (k + m) (by omega)).1)]
theorem z_row {r s a : Nat} (h : a * s % 10007 = 1) (ha : a ≤ 10007) : (r + (10007 - a) * (r * s % 10007)) % 10007 = 0 := by
  have e1 : (r + (10007 - a) * (r * s % 10007)) % 10007 = (r + (10007 - a) * (r * s)) % 10007 := by
    rw [Nat.add_mod, Nat.mul_mod, Nat.mod_mod, ← Nat.mul_mod, ← Nat.add_mod]
  have e2 : (r + (10007 - a) * (r * s)) + r * (a * s) = r + 10007 * (r * s) := by
    rw [Nat.sub_mul]
    have h1 : a * (r * s) ≤ 10007 * (r * s) := Nat.mul_le_mul_right _ ha
    have h2 : r * (a * s) = a * (r * s) := by rw [Nat.mul_left_comm]
    omega
  have e3 : r * (a * s) % 10007 = r % 10007 := by
    rw [Nat.mul_mod, h, Nat.mul_one, Nat.mod_mod]
  rw [e1]
  generalize (r + (10007 - a) * (r * s)) = X at *
  generalize r * (a * s) = Y at *
  generalize r * s = Z at *
  omega
theorem z_part {r s a : Nat} (h : a * s % 10007 = 1) (hs : s ≤ 10007) : (r + a * (r * (10007 - s) % 10007)) % 10007 = 0 := by
  have e1 : (r + a * (r * (10007 - s) % 10007)) % 10007 = (r + a * (r * (10007 - s))) % 10007 := by
    rw [Nat.add_mod, Nat.mul_mod, Nat.mod_mod, ← Nat.mul_mod, ← Nat.add_mod]
  have e2 : (r + a * (r * (10007 - s))) + r * (a * s) = r + 10007 * (a * r) := by
    rw [Nat.mul_sub, Nat.mul_sub]
    have h1 : a * (r * s) ≤ a * (r * 10007) := Nat.mul_le_mul_left _ (Nat.mul_le_mul_left _ hs)
    have h2 : r * (a * s) = a * (r * s) := by rw [Nat.mul_left_comm]
    have h3 : a * (r * 10007) = 10007 * (a * r) := by rw [← Nat.mul_assoc, Nat.mul_comm]
    omega
  have e3 : r * (a * s) % 10007 = r % 10007 := by
    rw [Nat.mul_mod, h, Nat.mul_one, Nat.mod_mod]
  rw [e1]
  generalize (r + a * (r * (10007 - s))) = X at *
  generalize r * (a * s) = Y at *
  generalize a * r = Z at *
  omega
/-- what was told of a vector when it was placed, is what the last basis says -/
theorem cod_fin {w : Nat} {B B' : Bs} (h : bI w B) (h' : bI w B') {v : Nat → Nat} (hv : ∀ j, j < w → v j < 10007) {word : Nat} (hx : ext (plc w B v word) B') : (rd B' v B'.1).2 = cod w B v := by
  have n3 := fnz_le (f := (rd B v B.1).1) w
  obtain ⟨n1, n2⟩ := fnz_spec (f := (rd B v B.1).1) w
  have hr := rd_lt h hv B.1 (Nat.le_refl _)
  by_cases e : fnz (rd B v B.1).1 w = w
  · have hx2 : ext B B' := by
      unfold plc at hx
      rw [if_pos e] at hx
      exact hx
    have e1 := rd_ext hx2 (v := v) B.1 (Nat.le_refl _)
    have e2 := rd_zero h' (v := v) (k := B.1) (fun j hj => by rw [e1]; exact n1 j (by omega)) (B'.1 - B.1) (by have := hx2.1; omega)
    rw [show B.1 + (B'.1 - B.1) = B'.1 by have := hx2.1; omega] at e2
    unfold cod
    rw [e2, e1, if_pos e]
  · have hx1 : ext B B' := plc_ext.trans hx
    have e1 := rd_ext hx1 (v := v) B.1 (Nat.le_refl _)
    unfold plc at hx
    rw [if_neg e] at hx
    have hc : B.1 + 1 ≤ B'.1 := hx.1
    have hk := hx.2 B.1 (Nat.lt_succ_self _)
    dsimp only at hk
    rw [up_at, up_at, up_at, up_at, up_at] at hk
    obtain ⟨_, k2, _, k4, k5⟩ := hk
    have ha : fnz (rd B v B.1).1 w < w := by omega
    have hx0 : 0 < (rd B v B.1).1 (fnz (rd B v B.1).1 w) := Nat.pos_of_ne_zero (n2 ha)
    have hx2 := hr.1 _ ha
    have ho := rcp_ok hx0 hx2
    have hl := rcp_lt (x := (rd B v B.1).1 (fnz (rd B v B.1).1 w))
    have e3 : rd B' v (B.1 + 1) = (fun j => ((rd B v B.1).1 j + (10007 - (rd B v B.1).1 (fnz (rd B v B.1).1 w)) * ((rd B v B.1).1 j * rcp ((rd B v B.1).1 (fnz (rd B v B.1).1 w)) % 10007)) % 10007, fun j => if j = B.1 then 1 else 0) := by
      rw [rd, e1, k2, if_neg (n2 ha), k4, k5]
      congr 1
      funext j
      dsimp only
      by_cases e4 : j = B.1
      · rw [if_pos e4, if_pos e4, (hr.2 j).2 (by omega), Nat.zero_add]
        exact ho
      · rw [if_neg e4, if_neg e4]
        exact z_part ho (by omega)
    have e5 := rd_zero h' (v := v) (k := B.1 + 1) (fun j hj => by rw [e3]; exact z_row ho (by omega)) (B'.1 - (B.1 + 1)) (by omega)
    rw [show B.1 + 1 + (B'.1 - (B.1 + 1)) = B'.1 by omega] at e5
    unfold cod
    rw [e5, e3, if_neg e]
/-- the reduced automaton -/
noncomputable def redA (A : Au) : Au := ((expl A).1, fun k => if k = 0 then 1 else 0, fun k => wtA A ((expl A).2.2.2.1 k), fun l k j => (rd (expl A) (stpA A l ((expl A).2.2.2.1 k)) (expl A).1).2 j)
noncomputable def minA (A : Au) : Au := revA (redA (revA (redA A)))
theorem redA_le {A : Au} (ok : okA A) : (redA A).1 ≤ A.1 := bI_le (expl_I ok)
theorem redA_ok {A : Au} (ok : okA A) : okA (redA A) := by
  intro i hi
  refine ⟨?_, wtA_lt, fun j l _ _ => ?_⟩
  · show (if i = 0 then 1 else 0) < 10007
    by_cases e : i = 0
    · rw [if_pos e]; omega
    · rw [if_neg e]; omega
  · exact ((rd_lt (expl_I ok) (v := stpA A l ((expl A).2.2.2.1 i)) (fun j _ => stpA_lt) _ (Nat.le_refl _)).2 j).1
theorem minA_le {A : Au} (ok : okA A) : (minA A).1 ≤ A.1 := Nat.le_trans (redA_le (revA_ok (redA_ok ok))) (redA_le ok)
theorem minA_ok {A : Au} (ok : okA A) : okA (minA A) := revA_ok (redA_ok (revA_ok (redA_ok ok)))
