/-! ===== the basis and its span ===== -/
def bv (B : Bs) (j i : Nat) : FK := fc (B.2.2.2.1 j i)
def be (B : Bs) (j i : Nat) : FK := fc (B.2.2.2.2.1 j i)
def bp (B : Bs) (k j : Nat) : FK := fc (B.2.2.2.2.2 k j)
def Sp (w : Nat) (B : Bs) (v : Nat → FK) : Prop := ∃ a : Nat → FK, ∀ i, i < w → v i = fs B.1 (fun j => a j * bv B j i)
def bJ (w : Nat) (B : Bs) : Prop := (∀ k i, k < B.1 → i < w → be B k i = fs B.1 (fun j => bp B k j * bv B j i)) ∧ (∃ T : Nat → Nat → FK, ∀ k i, k < B.1 → i < w → bv B k i = fs B.1 (fun j => T k j * be B j i)) ∧ ∀ a : Nat → FK, (∀ i, i < w → fs B.1 (fun j => a j * bv B j i) = 0) → ∀ j, j < B.1 → a j = 0
section SPA
variable {w : Nat} {B B' : Bs} {v : Nat → Nat} {word : Nat}
theorem rd_sum (hI : bI w B) (hJ : bJ w B) (hv : ∀ j, j < w → v j < 10007) : ∀ k, k ≤ B.1 → ∀ i, i < w → fc (v i) = fc ((rd B v k).1 i) + fs B.1 (fun j => fc ((rd B v k).2 j) * bv B j i) := by
  intro k
  induction k with
  | zero =>
    intro _ i _
    show fc (v i) = fc (v i) + fs B.1 (fun j => fc 0 * bv B j i)
    rw [fs_0 (f := fun j => fc 0 * bv B j i) (fun j _ => by rw [fc_0]; exact k_zm)]
    exact k_az.symm
  | succ k ih =>
    intro hk i hi
    have h1 := ih (by omega) i hi
    have hp := hI.1 k (by omega)
    have hm := (rd_lt hI hv k (by omega)).1 _ hp.1
    have hj := hJ.1 k i (by omega) hi
    unfold rd
    by_cases e : (rd B v k).1 (B.2.2.1 k) = 0
    · rw [if_pos e]; exact h1
    · rw [if_neg e]
      show fc (v i) = fc (((rd B v k).1 i + (10007 - (rd B v k).1 (B.2.2.1 k)) * B.2.2.2.2.1 k i) % 10007) + fs B.1 (fun j => fc (((rd B v k).2 j + (rd B v k).1 (B.2.2.1 k) * B.2.2.2.2.2 k j) % 10007) * bv B j i)
      rw [fc_mod, fc_add, fc_mul, fc_sub (Nat.le_of_lt hm), fs_c (g := fun j => fc ((rd B v k).2 j) * bv B j i + fc ((rd B v k).1 (B.2.2.1 k)) * (bp B k j * bv B j i)) (fun j _ => by rw [fc_mod, fc_add, fc_mul]; exact k_rp), fs_add, fs_mul, ← hj, h1]
      exact k_rd
/-- nothing is left of a vector just where the rows span it -/
theorem rd_span (hI : bI w B) (hJ : bJ w B) (hv : ∀ j, j < w → v j < 10007) : fnz (rd B v B.1).1 w = w ↔ Sp w B (fun i => fc (v i)) := by
  have hs := rd_sum hI hJ hv B.1 (Nat.le_refl _)
  have hl := (rd_lt hI hv B.1 (Nat.le_refl _)).1
  have hp := rd_pv hI hv B.1 (Nat.le_refl _)
  constructor
  · intro h
    have h0 := (fnz_spec (f := (rd B v B.1).1) w).1
    rw [h] at h0
    refine ⟨fun j => fc ((rd B v B.1).2 j), fun i hi => ?_⟩
    show fc (v i) = _
    rw [hs i hi, h0 i hi, fc_0]
    exact k_za
  · intro ⟨a, ha⟩
    obtain ⟨T, hT⟩ := hJ.2.1
    -- the rest by the rows
    obtain ⟨d, hr⟩ : ∃ d : Nat → FK, ∀ i, i < w → fc ((rd B v B.1).1 i) = fs B.1 (fun k => d k * be B k i) := by
      refine ⟨fun k => fs B.1 (fun j => (a j - fc ((rd B v B.1).2 j)) * T j k), fun i hi => ?_⟩
      show fc ((rd B v B.1).1 i) = fs B.1 (fun k => fs B.1 (fun j => (a j - fc ((rd B v B.1).2 j)) * T j k) * be B k i)
      have h1 := hs i hi
      have h3 : fc (v i) = fs B.1 (fun j => a j * bv B j i) := ha i hi
      rw [h3] at h1
      have h2 : fc ((rd B v B.1).1 i) = fs B.1 (fun j => (a j - fc ((rd B v B.1).2 j)) * bv B j i) := by
        rw [fs_c (g := fun j => a j * bv B j i - fc ((rd B v B.1).2 j) * bv B j i) (fun j _ => k_sm), fs_sub, h1]
        exact k_as
      rw [h2, fs_c (g := fun j => fs B.1 (fun k => (a j - fc ((rd B v B.1).2 j)) * T j k * be B k i)) (fun j hj => ?_), fs_swap]
      · exact fs_c (fun k _ => by rw [fs_mulr])
      · rw [hT j i hj hi, ← fs_mul]
        exact fs_c (fun k _ => k_a3)
    have hd : ∀ n k, k < n → k < B.1 → d k = 0 := by
      intro n
      induction n with
      | zero => exact fun k h => absurd h (Nat.not_lt_zero k)
      | succ n ih =>
        intro k hk hkB
        by_cases e : k < n
        · exact ih k e hkB
        · have e1 : k = n := by omega
          subst e1
          have h1 := hr _ (hI.1 k hkB).1
          rw [hp k hkB, fc_0] at h1
          have h2 : fs B.1 (fun q => d q * be B q (B.2.2.1 k)) = d k := by
            refine fs_at (a := d) hkB (fun q hq => ?_)
            by_cases e2 : q = k
            · subst e2
              rw [if_pos rfl]
              unfold be
              rw [(hI.1 q hq).2.1, fc_1]
              exact k_m1
            · rw [if_neg e2]
              rcases Nat.lt_or_ge q k with g | g
              · rw [ih q g hq]
                exact k_zm
              · unfold be
                rw [(hI.1 q hq).2.2 k (by omega), fc_0]
                exact k_mz
          exact h2.symm.trans h1.symm
    refine fnz_of (Nat.le_refl w) (fun i hi => ?_) (fun h => absurd h (Nat.lt_irrefl w))
    refine (fc_z (hl i hi)).mp ?_
    rw [hr i hi]
    refine fs_0 (fun k hk => ?_)
    rw [show d k = 0 from hd (k + 1) k (Nat.lt_succ_self k) hk]
    exact k_zm
theorem Sp.ext (h : ext B B') {u : Nat → FK} (hs : Sp w B u) : Sp w B' u := by
  obtain ⟨a, ha⟩ := hs
  refine ⟨fun j => if j < B.1 then a j else 0, fun i hi => ?_⟩
  show u i = fs B'.1 (fun j => (if j < B.1 then a j else 0) * bv B' j i)
  rw [ha i hi, fs_ext h.1 (fun j h1 h2 => by rw [if_neg (by omega)]; exact k_zm)]
  refine fs_c (fun j hj => ?_)
  rw [if_pos hj]
  unfold bv
  rw [(h.2 j hj).2.2.1]
theorem bs0_J : bJ w bs0 := ⟨fun k i h => absurd h (Nat.not_lt_zero k), ⟨fun _ _ => 0, fun k i h => absurd h (Nat.not_lt_zero k)⟩, fun a _ j h => absurd h (Nat.not_lt_zero j)⟩
theorem plc_new (e : ¬ fnz (rd B v B.1).1 w = w) : (plc w B v word).1 = B.1 + 1 ∧ (plc w B v word).2.1 B.1 = word ∧ (∀ i, bv (plc w B v word) B.1 i = fc (v i)) := by
  unfold plc bv
  rw [if_neg e]
  dsimp only
  rw [up_at, up_at]
  exact ⟨rfl, rfl, fun _ => rfl⟩
theorem plc_old (e : fnz (rd B v B.1).1 w = w) : plc w B v word = B := by
  unfold plc
  rw [if_pos e]
/-- the parts of a larger basis -/
theorem plc_x {C : Bs} {r x : FK} (hI : bI w B) (hJ : bJ w B) (hs : ∀ i, i < w → fc (v i) = fc ((rd B v B.1).1 i) + fs B.1 (fun j => fc ((rd B v B.1).2 j) * bv B j i)) (hns : ¬ Sp w B (fun i => fc (v i))) (n1 : C.1 = B.1 + 1) (n3 : ∀ i, bv C B.1 i = fc (v i)) (oe : ∀ k i, k < B.1 → be C k i = be B k i) (op : ∀ k i, k < B.1 → bp C k i = bp B k i) (ov : ∀ k i, k < B.1 → bv C k i = bv B k i) (q1 : ∀ i, be C B.1 i = fc ((rd B v B.1).1 i) * r) (q2 : ∀ j, bp C B.1 j = if j = B.1 then r else - (fc ((rd B v B.1).2 j) * r)) (hone : x * r = 1) : bJ w C := by
  obtain ⟨T, hT⟩ := hJ.2.1
  refine ⟨fun k i hk hi => ?_, ⟨fun k j => if k = B.1 then (if j = B.1 then x else fs B.1 (fun q => fc ((rd B v B.1).2 q) * T q j)) else if j = B.1 then 0 else T k j, fun k i hk hi => ?_⟩, fun a ha => ?_⟩
  · rw [n1, fs_s]
    by_cases e2 : k = B.1
    · rw [e2, q1, q2 B.1, if_pos rfl, n3, fs_c (g := fun j => (- r) * (fc ((rd B v B.1).2 j) * bv B j i)) (fun j hj => by rw [q2, if_neg (by omega), ov j i hj]; exact k_c1), fs_mul, hs i hi]
      exact k_c2
    · have hk' : k < B.1 := by omega
      rw [oe k i hk', hJ.1 k i hk' hi, op k B.1 hk', show bp B k B.1 = 0 by unfold bp; rw [(hI.2.2 k B.1 hk').2.2 hk', fc_0], fs_c (n := B.1) (f := fun j => bp C k j * bv C j i) (g := fun j => bp B k j * bv B j i) (fun j hj => by rw [op k j hk', ov j i hj])]
      exact k_z2
  · show bv C k i = fs C.1 (fun j => (if k = B.1 then (if j = B.1 then x else fs B.1 (fun q => fc ((rd B v B.1).2 q) * T q j)) else if j = B.1 then 0 else T k j) * be C j i)
    rw [n1, fs_s]
    by_cases e2 : k = B.1
    · rw [e2, n3, if_pos rfl, if_pos rfl, q1, fs_c (n := B.1) (f := fun j => (if B.1 = B.1 then (if j = B.1 then x else fs B.1 (fun q => fc ((rd B v B.1).2 q) * T q j)) else if j = B.1 then 0 else T B.1 j) * be C j i) (g := fun j => fs B.1 (fun q => fc ((rd B v B.1).2 q) * T q j * be B j i)) (fun j hj => by rw [if_pos rfl, if_neg (by omega), oe j i hj, ← fs_mulr]), fs_swap, hs i hi, fs_c (n := B.1) (f := fun j => fc ((rd B v B.1).2 j) * bv B j i) (g := fun q => fs B.1 (fun j => fc ((rd B v B.1).2 q) * T q j * be B j i)) (fun q hq => by rw [hT q i hq hi, ← fs_mul]; exact fs_c (fun j _ => k_a3))]
      exact k_h hone
    · have hk' : k < B.1 := by omega
      rw [ov k i hk', hT k i hk' hi, if_neg e2, if_pos rfl, fs_c (n := B.1) (f := fun j => (if k = B.1 then (if j = B.1 then x else fs B.1 (fun q => fc ((rd B v B.1).2 q) * T q j)) else if j = B.1 then 0 else T k j) * be C j i) (g := fun j => T k j * be B j i) (fun j hj => by rw [if_neg e2, if_neg (by omega), oe j i hj])]
      exact k_z2
  · rw [n1] at ha ⊢
    have ha2 : ∀ i, i < w → fs B.1 (fun j => a j * bv B j i) + a B.1 * fc (v i) = 0 := by
      intro i hi
      have h1 := ha i hi
      rw [fs_s, n3, fs_c (n := B.1) (f := fun j => a j * bv C j i) (g := fun j => a j * bv B j i) (fun j hj => by rw [ov j i hj])] at h1
      exact h1
    have h0 : a B.1 = 0 := by
      refine Classical.byContradiction fun hne => ?_
      obtain ⟨y, hy⟩ := fk_inv hne
      refine hns ⟨fun j => (- y) * a j, fun i hi => ?_⟩
      show fc (v i) = fs B.1 (fun j => (- y) * a j * bv B j i)
      rw [fs_c (g := fun j => (- y) * (a j * bv B j i)) (fun j _ => k_a3.symm), fs_mul]
      exact k_n (ha2 i hi) hy
    intro j hj
    by_cases e2 : j = B.1
    · rw [e2]; exact h0
    · refine hJ.2.2 a (fun i hi => ?_) j (by omega)
      have h1 := ha2 i hi
      rw [h0] at h1
      exact k_z2.trans h1
theorem plc_J (hI : bI w B) (hJ : bJ w B) (hv : ∀ j, j < w → v j < 10007) : bJ w (plc w B v word) := by
  have hx := plc_ext (w := w) (B := B) (v := v) (word := word)
  have hs := rd_sum hI hJ hv B.1 (Nat.le_refl _)
  have hspan := rd_span hI hJ hv
  by_cases e : fnz (rd B v B.1).1 w = w
  · rw [plc_old e]
    exact hJ
  · obtain ⟨n1, -, n3⟩ := plc_new (word := word) e
    have hns : ¬ Sp w B (fun i => fc (v i)) := fun h => e (hspan.mpr h)
    obtain ⟨m1, m2⟩ := fnz_spec (f := (rd B v B.1).1) w
    have m3 := fnz_le (f := (rd B v B.1).1) w
    have hr := (rd_lt hI hv B.1 (Nat.le_refl _)).1
    refine plc_x (r := fc (rcp ((rd B v B.1).1 (fnz (rd B v B.1).1 w)))) hI hJ hs hns n1 n3 (fun k i hk => ?_) (fun k i hk => ?_) (fun k i hk => ?_) (fun i => ?_) (fun j => ?_) (fc_rcp (x := (rd B v B.1).1 (fnz (rd B v B.1).1 w)) (Nat.pos_of_ne_zero (m2 (by omega))) (hr _ (by omega)))
    · unfold be
      rw [(hx.2 k hk).2.2.2.1]
    · unfold bp
      rw [(hx.2 k hk).2.2.2.2]
    · unfold bv
      rw [(hx.2 k hk).2.2.1]
    · unfold plc be
      rw [if_neg e]
      dsimp only
      rw [up_at, fc_mod, fc_mul]
    · unfold plc bp
      rw [if_neg e]
      dsimp only
      rw [up_at]
      by_cases e2 : j = B.1
      · rw [if_pos e2, if_pos e2]
      · rw [if_neg e2, if_neg e2, fc_mod, fc_mul, fc_sub (Nat.le_of_lt rcp_lt)]
        exact k_mn
theorem plc_sp (hI : bI w B) (hJ : bJ w B) (hv : ∀ j, j < w → v j < 10007) : Sp w (plc w B v word) (fun i => fc (v i)) := by
  by_cases e : fnz (rd B v B.1).1 w = w
  · rw [plc_old e]
    exact (rd_span hI hJ hv).mp e
  · obtain ⟨n1, -, n3⟩ := plc_new (word := word) e
    refine ⟨fun j => if j = B.1 then 1 else 0, fun i _ => ?_⟩
    show fc (v i) = fs (plc w B v word).1 (fun j => (if j = B.1 then 1 else 0) * bv (plc w B v word) j i)
    rw [fs_at (k := B.1) (a := fun j => bv (plc w B v word) j i) (by omega) (fun j _ => ?_), n3]
    by_cases e2 : j = B.1
    · rw [if_pos e2, if_pos e2]
      exact k_1m
    · rw [if_neg e2, if_neg e2]
      exact k_zm
end SPA
