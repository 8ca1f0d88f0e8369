/-! ===== what the exploration comes to ===== -/
/-- vectors are those of their words -/
def eW (A : Au) (B : Bs) : Prop := ∀ k i, k < B.1 → i < A.1 → bv B k i = vv A (lw (B.2.1 k + 1)) i
/-- words ascend -/
def eU (B : Bs) : Prop := ∀ j k, j < k → k < B.1 → B.2.1 j < B.2.1 k
section EXP
variable {A : Au} {B : Bs}
theorem plc_W {v : Nat → Nat} {word : Nat} (h : eW A B) (hv : ∀ i, i < A.1 → fc (v i) = vv A (lw (word + 1)) i) : eW A (plc A.1 B v word) := by
  by_cases e : fnz (rd B v B.1).1 A.1 = A.1
  · unfold plc
    rw [if_pos e]
    exact h
  · have hx := plc_ext (w := A.1) (B := B) (v := v) (word := word)
    obtain ⟨n1, n2, n3⟩ := plc_new (word := word) e
    intro k i hk hi
    by_cases e2 : k = B.1
    · rw [e2, n3, n2]
      exact hv i hi
    · have h1 := h k i (by omega) hi
      have h2 := hx.2 k (by omega)
      unfold bv at h1 ⊢
      rw [h2.2.2.1, h2.1]
      exact h1
theorem exl_s {t : Nat} : exl A (t + 1) = if t / 2 < (exl A t).1 then plc A.1 (exl A t) (stpA A (t % 2) ((exl A t).2.2.2.1 (t / 2))) (2 * (exl A t).2.1 (t / 2) + 1 + t % 2) else exl A t := rfl
theorem stp_v {t : Nat} (h : eW A B) (ht : t / 2 < B.1) : ∀ i, fc (stpA A (t % 2) (B.2.2.2.1 (t / 2)) i) = vv A (lw (2 * B.2.1 (t / 2) + 1 + t % 2 + 1)) i := by
  intro i
  rw [show 2 * B.2.1 (t / 2) + 1 + t % 2 + 1 = 2 * (B.2.1 (t / 2) + 1) + (⟨t % 2, Nat.mod_lt _ (Nat.succ_pos 1)⟩ : Fin 2).val by show _ = 2 * (B.2.1 (t / 2) + 1) + t % 2; omega, lw_up (by omega), vv_c, fc_stpA]
  refine fs_c (fun k hk => ?_)
  have := h (t / 2) k ht hk
  unfold bv at this
  rw [this]
theorem exl_J (ok : okA A) : ∀ t, bJ A.1 (exl A t) ∧ eW A (exl A t) := by
  intro t
  induction t with
  | zero =>
    refine ⟨plc_J bs0_I bs0_J (fun j hj => (ok j hj).1), plc_W (fun k i h => absurd h (Nat.not_lt_zero k)) (fun i _ => ?_)⟩
    rw [lw_low (Nat.le_refl 1)]
    rfl
  | succ t ih =>
    rw [exl_s]
    by_cases e : t / 2 < (exl A t).1
    · rw [if_pos e]
      exact ⟨plc_J (exl_I ok t) ih.1 (fun j _ => stpA_lt), plc_W ih.2 (fun i _ => stp_v ih.2 e i)⟩
    · rw [if_neg e]
      exact ih
/-- at each time the words taken ascend, and lie below the next candidate -/
theorem exl_U : ∀ t, eU (exl A t) ∧ ∀ k, k < (exl A t).1 → t / 2 < (exl A t).1 → (exl A t).2.1 k < 2 * (exl A t).2.1 (t / 2) + 1 + t % 2 := by
  intro t
  induction t with
  | zero =>
    have h1 : (exl A 0).1 = 0 ∨ (exl A 0).1 = 1 := by
      show (plc A.1 bs0 A.2.1 0).1 = 0 ∨ (plc A.1 bs0 A.2.1 0).1 = 1
      by_cases e : fnz (rd bs0 A.2.1 bs0.1).1 A.1 = A.1
      · left
        unfold plc
        rw [if_pos e]
        rfl
      · right
        exact (plc_new e).1
    refine ⟨fun j k hjk hk => by omega, fun k hk h0 => ?_⟩
    have e0 : k = 0 := by omega
    subst e0
    show (exl A 0).2.1 0 < 2 * (exl A 0).2.1 0 + 1 + 0
    omega
  | succ t ih =>
    rw [exl_s]
    by_cases e : t / 2 < (exl A t).1
    · rw [if_pos e]
      obtain ⟨i1, i2⟩ := ih
      have hx := plc_ext (w := A.1) (B := exl A t) (v := stpA A (t % 2) ((exl A t).2.2.2.1 (t / 2))) (word := 2 * (exl A t).2.1 (t / 2) + 1 + t % 2)
      -- the new words
      have key : eU (plc A.1 (exl A t) (stpA A (t % 2) ((exl A t).2.2.2.1 (t / 2))) (2 * (exl A t).2.1 (t / 2) + 1 + t % 2)) ∧ ∀ k, k < (plc A.1 (exl A t) (stpA A (t % 2) ((exl A t).2.2.2.1 (t / 2))) (2 * (exl A t).2.1 (t / 2) + 1 + t % 2)).1 → (plc A.1 (exl A t) (stpA A (t % 2) ((exl A t).2.2.2.1 (t / 2))) (2 * (exl A t).2.1 (t / 2) + 1 + t % 2)).2.1 k ≤ 2 * (exl A t).2.1 (t / 2) + 1 + t % 2 := by
        by_cases e3 : fnz (rd (exl A t) (stpA A (t % 2) ((exl A t).2.2.2.1 (t / 2))) (exl A t).1).1 A.1 = A.1
        · unfold plc
          rw [if_pos e3]
          exact ⟨i1, fun k hk => Nat.le_of_lt (i2 k hk e)⟩
        · obtain ⟨n1, n2, -⟩ := plc_new (word := 2 * (exl A t).2.1 (t / 2) + 1 + t % 2) e3
          have old : ∀ k, k < (exl A t).1 → (plc A.1 (exl A t) (stpA A (t % 2) ((exl A t).2.2.2.1 (t / 2))) (2 * (exl A t).2.1 (t / 2) + 1 + t % 2)).2.1 k = (exl A t).2.1 k := fun k hk => (hx.2 k hk).1
          refine ⟨fun j k hjk hk => ?_, fun k hk => ?_⟩
          · rw [old j (by omega)]
            by_cases e4 : k = (exl A t).1
            · rw [e4, n2]
              exact i2 j (by omega) e
            · rw [old k (by omega)]
              exact i1 j k hjk (by omega)
          · by_cases e4 : k = (exl A t).1
            · rw [e4, n2]
              exact Nat.le_refl _
            · rw [old k (by omega)]
              exact Nat.le_of_lt (i2 k (by omega) e)
      have ho : (plc A.1 (exl A t) (stpA A (t % 2) ((exl A t).2.2.2.1 (t / 2))) (2 * (exl A t).2.1 (t / 2) + 1 + t % 2)).2.1 (t / 2) = (exl A t).2.1 (t / 2) := (hx.2 (t / 2) e).1
      generalize plc A.1 (exl A t) (stpA A (t % 2) ((exl A t).2.2.2.1 (t / 2))) (2 * (exl A t).2.1 (t / 2) + 1 + t % 2) = C at *
      refine ⟨key.1, fun k hk h0 => ?_⟩
      have h1 := key.2 k hk
      rcases (by omega : t % 2 = 0 ∨ t % 2 = 1) with q | q
      · rw [show (t + 1) / 2 = t / 2 by omega, show (t + 1) % 2 = 1 by omega, ho]
        omega
      · have h2 := key.1 (t / 2) ((t + 1) / 2) (by omega) h0
        rw [ho] at h2
        rw [show (t + 1) % 2 = 0 by omega]
        omega
    · rw [if_neg e]
      exact ⟨ih.1, fun k hk h0 => by omega⟩
/-- what holds of the whole exploration -/
theorem ex_at (ok : okA A) (h24 : A.1 ≤ 24) : bI A.1 (expl A) ∧ bJ A.1 (expl A) ∧ eW A (expl A) ∧ eU (expl A) := by
  rw [expl_eq]
  exact ⟨exl_I ok 48, (exl_J ok 48).1, (exl_J ok 48).2, (exl_U 48).1⟩
theorem ex_le (ok : okA A) (h24 : A.1 ≤ 24) : (expl A).1 ≤ A.1 := bI_le (ex_at ok h24).1
/-- the first vector -/
theorem ex_ini (ok : okA A) (h24 : A.1 ≤ 24) : Sp A.1 (expl A) (vv A []) ∧ (0 < (expl A).1 → (expl A).2.1 0 = 0) := by
  have h0 := exl_to (t := 0) ok h24
  have h1 : Sp A.1 (exl A 0) (fun i => fc (A.2.1 i)) := plc_sp bs0_I bs0_J (fun j hj => (ok j hj).1)
  refine ⟨h1.ext h0, fun hp => ?_⟩
  by_cases e : fnz (rd bs0 A.2.1 bs0.1).1 A.1 = A.1
  · have e1 : (exl A 0).1 = 0 := by
      show (plc A.1 bs0 A.2.1 0).1 = 0
      rw [plc_old e]
      rfl
    have := exl_fin (t := 0) ok h24 (by omega)
    rw [← this] at hp
    omega
  · obtain ⟨n1, n2, -⟩ := plc_new (w := A.1) (B := bs0) (v := A.2.1) (word := 0) e
    have n1 : (exl A 0).1 = 1 := n1
    have n2 : (exl A 0).2.1 0 = 0 := n2
    rw [(h0.2 0 (by omega)).1, n2]
/-- a basis vector and a letter: in the span of the basis vectors up to that word -/
theorem ex_stp (ok : okA A) (h24 : A.1 ≤ 24) {k : Nat} (hk : k < (expl A).1) (l : Fin 2) : ∃ a : Nat → FK, (∀ j, j < (expl A).1 → 2 * (expl A).2.1 k + 1 + l.val < (expl A).2.1 j → a j = 0) ∧ ∀ i, i < A.1 → vv A (l :: lw ((expl A).2.1 k + 1)) i = fs (expl A).1 (fun j => a j * bv (expl A) j i) := by
  have hl := l.isLt
  have hle := ex_le ok h24
  have hs : k < (exl A (2 * k + l.val)).1 := by
    rcases Nat.lt_or_ge k (exl A (2 * k + l.val)).1 with g | g
    · exact g
    · have := exl_fin (t := 2 * k + l.val) ok h24 (by omega)
      rw [this] at g
      omega
  have d1 : (2 * k + l.val) / 2 = k := by omega
  have d2 : (2 * k + l.val) % 2 = l.val := by omega
  have hx := exl_to (t := 2 * k + l.val + 1) ok h24
  have hx0 := exl_to (t := 2 * k + l.val) ok h24
  obtain ⟨j1, j2⟩ := exl_J ok (2 * k + l.val)
  obtain ⟨u1, u2⟩ := exl_U (A := A) (2 * k + l.val)
  have he : exl A (2 * k + l.val + 1) = plc A.1 (exl A (2 * k + l.val)) (stpA A l.val ((exl A (2 * k + l.val)).2.2.2.1 k)) (2 * (exl A (2 * k + l.val)).2.1 k + 1 + l.val) := by
    rw [exl_s, d1, d2, if_pos hs]
  have hw : (expl A).2.1 k = (exl A (2 * k + l.val)).2.1 k := (hx0.2 k hs).1
  have hv := stp_v (t := 2 * k + l.val) j2 (by rw [d1]; exact hs)
  rw [d1, d2] at hv u2
  obtain ⟨a, ha⟩ := plc_sp (word := 2 * (exl A (2 * k + l.val)).2.1 k + 1 + l.val) (exl_I ok (2 * k + l.val)) j1 (v := stpA A l.val ((exl A (2 * k + l.val)).2.2.2.1 k)) (fun j _ => stpA_lt)
  rw [← he] at ha
  -- words there
  have hup : ∀ j, j < (exl A (2 * k + l.val + 1)).1 → (exl A (2 * k + l.val + 1)).2.1 j ≤ 2 * (exl A (2 * k + l.val)).2.1 k + 1 + l.val := by
    intro j hj
    by_cases e3 : fnz (rd (exl A (2 * k + l.val)) (stpA A l.val ((exl A (2 * k + l.val)).2.2.2.1 k)) (exl A (2 * k + l.val)).1).1 A.1 = A.1
    · rw [he] at hj ⊢
      unfold plc at hj ⊢
      rw [if_pos e3] at hj ⊢
      exact Nat.le_of_lt (u2 j hj hs)
    · obtain ⟨n1, n2, -⟩ := plc_new (word := 2 * (exl A (2 * k + l.val)).2.1 k + 1 + l.val) e3
      rw [← he] at n1 n2
      by_cases e4 : j = (exl A (2 * k + l.val)).1
      · rw [e4, n2]
        exact Nat.le_refl _
      · have hx1 := exl_ext1 (A := A) (t := 2 * k + l.val)
        rw [(hx1.2 j (by omega)).1]
        exact Nat.le_of_lt (u2 j (by omega) hs)
  refine ⟨fun j => if j < (exl A (2 * k + l.val + 1)).1 then a j else 0, fun j hj h1 => ?_, fun i hi => ?_⟩
  · by_cases e5 : j < (exl A (2 * k + l.val + 1)).1
    · exfalso
      have h2 := hup j e5
      rw [(hx.2 j e5).1, hw] at h1
      omega
    · exact if_neg e5
  · show vv A (l :: lw ((expl A).2.1 k + 1)) i = fs (expl A).1 (fun j => (if j < (exl A (2 * k + l.val + 1)).1 then a j else 0) * bv (expl A) j i)
    rw [fs_ext hx.1 (fun j g1 g2 => by rw [if_neg (by omega)]; exact k_zm)]
    have h3 : fc (stpA A l.val ((exl A (2 * k + l.val)).2.2.2.1 k) i) = fs (exl A (2 * k + l.val + 1)).1 (fun j => a j * bv (exl A (2 * k + l.val + 1)) j i) := ha i hi
    have h4 : vv A (l :: lw ((expl A).2.1 k + 1)) i = fc (stpA A l.val ((exl A (2 * k + l.val)).2.2.2.1 k) i) := by
      rw [hv i, hw, show 2 * (exl A (2 * k + l.val)).2.1 k + 1 + l.val + 1 = 2 * ((exl A (2 * k + l.val)).2.1 k + 1) + l.val by omega, lw_up (by omega)]
    rw [h4, h3]
    refine fs_c (fun j hj => ?_)
    rw [if_pos hj]
    unfold bv
    rw [(hx.2 j hj).2.2.1]
end EXP
