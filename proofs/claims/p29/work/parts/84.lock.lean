/-! ===== explorations in lockstep; reducing, minimizing ===== -/
/-- what relates words in A relates them in B -/
def Rl (A B : Au) : Prop := ∀ (n : Nat) (f : Nat → FW) (a : Nat → FK), (∀ i, i < A.1 → fs n (fun k => a k * vv A (f k) i) = 0) → ∀ i, i < B.1 → fs n (fun k => a k * vv B (f k) i) = 0
def eL (B C : Bs) : Prop := B.1 = C.1 ∧ ∀ k, k < B.1 → B.2.1 k = C.2.1 k
section LCK
variable {A A' X Y : Au} {B B' : Bs}
theorem sp_rl (hR : Rl A A') (hL : eL B B') (hW : eW A B) (hW' : eW A' B') {u : FW} (h : Sp A.1 B (vv A u)) : Sp A'.1 B' (vv A' u) := by
  obtain ⟨a, ha⟩ := h
  have h1 := hR (B.1 + 1) (fun k => if k = B.1 then u else lw (B.2.1 k + 1)) (fun k => if k = B.1 then -1 else a k) (fun i hi => by
    show fs (B.1 + 1) (fun k => (if k = B.1 then -1 else a k) * vv A (if k = B.1 then u else lw (B.2.1 k + 1)) i) = 0
    rw [fs_s, if_pos rfl, if_pos rfl, fs_c (n := B.1) (f := fun k => (if k = B.1 then -1 else a k) * vv A (if k = B.1 then u else lw (B.2.1 k + 1)) i) (g := fun j => a j * bv B j i) (fun j hj => by rw [if_neg (by omega), if_neg (by omega), hW j i hj hi]), ← ha i hi]
    exact k_pos1 rfl)
  refine ⟨a, fun i hi => ?_⟩
  have h2 : fs (B.1 + 1) (fun k => (if k = B.1 then -1 else a k) * vv A' (if k = B.1 then u else lw (B.2.1 k + 1)) i) = 0 := h1 i hi
  rw [fs_s, if_pos rfl, if_pos rfl, fs_c (n := B.1) (f := fun k => (if k = B.1 then -1 else a k) * vv A' (if k = B.1 then u else lw (B.2.1 k + 1)) i) (g := fun j => a j * bv B' j i) (fun j hj => by rw [if_neg (by omega), if_neg (by omega), hW' j i (by rw [← hL.1]; exact hj) hi, ← hL.2 j hj])] at h2
  rw [← hL.1]
  exact k_neg1 h2
theorem lock_plc (hR : Rl A A') (hR' : Rl A' A) (hL : eL B B') (hI : bI A.1 B) (hI' : bI A'.1 B') (hJ : bJ A.1 B) (hJ' : bJ A'.1 B') (hW : eW A B) (hW' : eW A' B') {v v' : Nat → Nat} {word : Nat} (hv : ∀ j, j < A.1 → v j < 10007) (hv' : ∀ j, j < A'.1 → v' j < 10007) (hu : ∀ i, fc (v i) = vv A (lw (word + 1)) i) (hu' : ∀ i, fc (v' i) = vv A' (lw (word + 1)) i) : eL (plc A.1 B v word) (plc A'.1 B' v' word) := by
  have s1 := rd_span hI hJ hv
  have s2 := rd_span hI' hJ' hv'
  rw [show (fun i => fc (v i)) = vv A (lw (word + 1)) from funext hu] at s1
  rw [show (fun i => fc (v' i)) = vv A' (lw (word + 1)) from funext hu'] at s2
  have hL' : eL B' B := ⟨hL.1.symm, fun k hk => (hL.2 k (by rw [hL.1]; exact hk)).symm⟩
  by_cases e : fnz (rd B v B.1).1 A.1 = A.1
  · have e' := s2.mpr (sp_rl hR hL hW hW' (s1.mp e))
    rw [plc_old e, plc_old e']
    exact hL
  · have e' : ¬ fnz (rd B' v' B'.1).1 A'.1 = A'.1 := fun h => e (s1.mpr (sp_rl hR' hL' hW' hW (s2.mp h)))
    obtain ⟨n1, n2, -⟩ := plc_new (word := word) e
    obtain ⟨m1, m2, -⟩ := plc_new (word := word) e'
    have x1 := plc_ext (w := A.1) (B := B) (v := v) (word := word)
    have x2 := plc_ext (w := A'.1) (B := B') (v := v') (word := word)
    refine ⟨by rw [n1, m1, hL.1], fun k hk => ?_⟩
    by_cases e2 : k = B.1
    · rw [e2, n2, hL.1, m2]
    · rw [(x1.2 k (by omega)).1, (x2.2 k (by rw [← hL.1]; omega)).1]
      exact hL.2 k (by omega)
theorem lock_exl (ok : okA A) (ok' : okA A') (hR : Rl A A') (hR' : Rl A' A) : ∀ t, eL (exl A t) (exl A' t) := by
  intro t
  induction t with
  | zero =>
    refine lock_plc hR hR' ⟨rfl, fun k hk => rfl⟩ bs0_I bs0_I bs0_J bs0_J (fun k i h => absurd h (Nat.not_lt_zero k)) (fun k i h => absurd h (Nat.not_lt_zero k)) (fun j hj => (ok j hj).1) (fun j hj => (ok' j hj).1) (fun i => ?_) (fun i => ?_)
    · rw [lw_low (Nat.le_refl 1)]
      rfl
    · rw [lw_low (Nat.le_refl 1)]
      rfl
  | succ t ih =>
    rw [exl_s, exl_s]
    by_cases e : t / 2 < (exl A t).1
    · have e' : t / 2 < (exl A' t).1 := by rw [← ih.1]; exact e
      rw [if_pos e, if_pos e', ← ih.2 (t / 2) e]
      refine lock_plc hR hR' ih (exl_I ok t) (exl_I ok' t) (exl_J ok t).1 (exl_J ok' t).1 (exl_J ok t).2 (exl_J ok' t).2 (fun j _ => stpA_lt) (fun j _ => stpA_lt) (fun i => stp_v (exl_J ok t).2 e i) (fun i => ?_)
      rw [ih.2 (t / 2) e]
      exact stp_v (exl_J ok' t).2 e' i
    · rw [if_neg e, if_neg (by rw [← ih.1]; exact e)]
      exact ih
theorem lock (ok : okA A) (ok' : okA A') (hR : Rl A A') (hR' : Rl A' A) : (expl A).1 = (expl A').1 := by
  rw [expl_eq, expl_eq]
  exact (lock_exl ok ok' hR hR' 48).1
/-! reducing -/
theorem red_c (ok : okA A) (h24 : A.1 ≤ 24) {k : Nat} (hk : k < (expl A).1) (l : Fin 2) {i : Nat} (hi : i < A.1) : fs (expl A).1 (fun j => fc ((redA A).2.2.2 l.val k j) * bv (expl A) j i) = fs A.1 (fun q => bv (expl A) k q * fc (A.2.2.2 l.val q i)) := by
  obtain ⟨hI, hJ, hW, -⟩ := ex_at ok h24
  have hv : ∀ j, j < A.1 → stpA A l.val ((expl A).2.2.2.1 k) j < 10007 := fun j _ => stpA_lt
  have hc : ∀ i, fc (stpA A l.val ((expl A).2.2.2.1 k) i) = fs A.1 (fun q => bv (expl A) k q * fc (A.2.2.2 l.val q i)) := fun i => fc_stpA
  have hsp : Sp A.1 (expl A) (fun i => fc (stpA A l.val ((expl A).2.2.2.1 k) i)) := by
    obtain ⟨a, -, ha⟩ := ex_stp ok h24 hk l
    refine ⟨a, fun i hi => ?_⟩
    show fc (stpA A l.val ((expl A).2.2.2.1 k) i) = _
    rw [← ha i hi, hc, vv_c]
    exact fs_c (fun q hq => by rw [hW k q hk hq])
  have h0 := (fnz_spec (f := (rd (expl A) (stpA A l.val ((expl A).2.2.2.1 k)) (expl A).1).1) A.1).1
  rw [(rd_span hI hJ hv).mpr hsp] at h0
  have hs := rd_sum hI hJ hv (expl A).1 (Nat.le_refl _) i hi
  rw [h0 i hi, fc_0, hc] at hs
  exact (hs.trans k_za).symm
theorem red_v (ok : okA A) (h24 : A.1 ≤ 24) : ∀ (w : FW) (i : Nat), i < A.1 → fs (expl A).1 (fun k => vv (redA A) w k * bv (expl A) k i) = vv A w i := by
  obtain ⟨hI, hJ, hW, -⟩ := ex_at ok h24
  intro w
  induction w with
  | nil =>
    intro i hi
    obtain ⟨⟨a, ha⟩, h0⟩ := ex_ini ok h24
    rcases Nat.eq_zero_or_pos (expl A).1 with e | e
    · have := ha i hi
      rw [e] at this ⊢
      exact this.symm
    · rw [fs_at (k := 0) (a := fun k => bv (expl A) k i) e (fun k _ => ?_), hW 0 i e hi, h0 e, lw_low (Nat.le_refl 1)]
      show fc (if k = 0 then 1 else 0) * _ = _
      by_cases e2 : k = 0
      · rw [if_pos e2, if_pos e2, fc_1]
        exact k_1m
      · rw [if_neg e2, if_neg e2, fc_0]
        exact k_zm
  | cons l w ih =>
    intro i hi
    rw [vv_c, fs_c (n := (expl A).1) (g := fun j => fs (expl A).1 (fun k => vv (redA A) w k * (fc ((redA A).2.2.2 l.val k j) * bv (expl A) j i))) (fun j _ => ?_), fs_swap]
    · rw [fs_c (n := (expl A).1) (g := fun k => vv (redA A) w k * fs A.1 (fun q => bv (expl A) k q * fc (A.2.2.2 l.val q i))) (fun k hk => by rw [← red_c ok h24 hk l hi, ← fs_mul]), fs_c (n := A.1) (g := fun q => fs (expl A).1 (fun k => vv (redA A) w k * bv (expl A) k q * fc (A.2.2.2 l.val q i))) (fun q hq => by rw [← ih q hq, ← fs_mulr]), fs_swap]
      refine fs_c (fun k _ => ?_)
      rw [← fs_mul]
      exact fs_c (fun q _ => k_a3)
    · show vv (redA A) (l :: w) j * _ = _
      rw [vv_c, ← fs_mulr]
      exact fs_c (fun k _ => k_a3.symm)
theorem red_eq (ok : okA A) (h24 : A.1 ≤ 24) : sEq (redA A) A := by
  intro w
  unfold ww
  show fs (expl A).1 (fun k => vv (redA A) w k * fc (wtA A ((expl A).2.2.2.1 k))) = _
  rw [fs_c (n := (expl A).1) (g := fun k => fs A.1 (fun i => vv (redA A) w k * (bv (expl A) k i * fc (A.2.2.1 i)))) (fun k _ => by rw [fc_wtA, ← fs_mul]; rfl), fs_swap]
  refine fs_c (fun i hi => ?_)
  rw [← red_v ok h24 w i hi, ← fs_mulr]
  exact fs_c (fun k _ => k_a3)
theorem red_rl (ok : okA A) (h24 : A.1 ≤ 24) : Rl A (redA A) ∧ Rl (redA A) A := by
  have key : ∀ (n : Nat) (f : Nat → FW) (a : Nat → FK) (i : Nat), i < A.1 → fs n (fun k => a k * vv A (f k) i) = fs (expl A).1 (fun j => fs n (fun k => a k * vv (redA A) (f k) j) * bv (expl A) j i) := by
    intro n f a i hi
    rw [fs_c (n := n) (f := fun k => a k * vv A (f k) i) (g := fun k => fs (expl A).1 (fun j => a k * vv (redA A) (f k) j * bv (expl A) j i)) (fun k _ => by rw [← red_v ok h24 (f k) i hi, ← fs_mul]; exact fs_c (fun j _ => k_a3)), fs_swap]
    exact fs_c (fun j _ => by rw [fs_mulr])
  refine ⟨fun n f a h => ?_, fun n f a h i hi => ?_⟩
  · exact (ex_at ok h24).2.1.2.2 (fun j => fs n (fun k => a k * vv (redA A) (f k) j)) (fun i hi => (key n f a i hi).symm.trans (h i hi))
  · rw [key n f a i hi]
    refine fs_0 (fun j hj => ?_)
    rw [h j hj]
    exact k_zm
/-- a basis word's coordinates -/
theorem red_e (ok : okA A) (h24 : A.1 ≤ 24) {k : Nat} (hk : k < (expl A).1) : ∀ j, j < (expl A).1 → vv (redA A) (lw ((expl A).2.1 k + 1)) j = if j = k then 1 else 0 := by
  obtain ⟨hI, hJ, hW, -⟩ := ex_at ok h24
  intro j hj
  have hz : ∀ i, i < A.1 → fs (expl A).1 (fun j => (vv (redA A) (lw ((expl A).2.1 k + 1)) j - if j = k then 1 else 0) * bv (expl A) j i) = 0 := by
    intro i hi
    rw [fs_c (g := fun j => vv (redA A) (lw ((expl A).2.1 k + 1)) j * bv (expl A) j i - (if j = k then bv (expl A) j i else 0)) (fun j _ => ?_), fs_sub, red_v ok h24 _ i hi, fs_one, if_pos hk, hW k i hk hi]
    · exact k_sub_self
    · by_cases e : j = k
      · rw [if_pos e, if_pos e]
        exact k_m11
      · rw [if_neg e, if_neg e]
        exact k_m10
  exact k_sub0 (hJ.2.2 _ hz j hj)
/-- backward vectors of a reduced automaton: their relations are the series' -/
theorem red_bk (ok : okA A) (h24 : A.1 ≤ 24) (n : Nat) (f : Nat → FW) (a : Nat → FK) : (∀ i, i < (expl A).1 → fs n (fun k => a k * vv (revA (redA A)) (f k) i) = 0) ↔ ∀ u, fs n (fun k => a k * ww A ((f k).reverse ++ u)) = 0 := by
  have key : ∀ u, fs n (fun k => a k * ww A ((f k).reverse ++ u)) = fs (expl A).1 (fun i => vv (redA A) u i * fs n (fun k => a k * vv (revA (redA A)) (f k) i)) := by
    intro u
    rw [fs_c (n := n) (f := fun k => a k * ww A ((f k).reverse ++ u)) (g := fun k => fs (expl A).1 (fun i => a k * (vv (redA A) u i * vv (revA (redA A)) (f k) i))) (fun k _ => ?_), fs_swap]
    · refine fs_c (fun i _ => ?_)
      rw [← fs_mul]
      exact fs_c (fun k _ => k_lc)
    · rw [← red_eq ok h24, ← vv_join, fs_mul]
      rfl
  constructor
  · intro h u
    rw [key]
    exact fs_0 (fun i hi => by rw [h i hi]; exact k_mz)
  · intro h i hi
    have h1 := h (lw ((expl A).2.1 i + 1))
    rw [key, fs_at (k := i) (a := fun i => fs n (fun k => a k * vv (revA (redA A)) (f k) i)) hi (fun j hj => ?_)] at h1
    · exact h1
    · rw [red_e ok h24 hi j hj]
      by_cases e : j = i
      · rw [if_pos e, if_pos e]
        exact k_1m
      · rw [if_neg e, if_neg e]
        exact k_zm
theorem bk_rl (ok : okA A) (h24 : A.1 ≤ 24) (ok' : okA A') (h24' : A'.1 ≤ 24) (h : sEq A A') : Rl (revA (redA A)) (revA (redA A')) := fun n f a h1 => (red_bk ok' h24' n f a).mpr (fun u => (fs_c (fun k _ => by rw [h])).trans ((red_bk ok h24 n f a).mp h1 u))
end LCK
