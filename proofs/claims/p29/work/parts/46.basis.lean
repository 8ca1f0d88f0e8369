/-! ===== reciprocals; the basis, abstractly ===== -/
def rcP (x : Nat) : Nat → Nat
  | 0 => x
  | k + 1 => rcP x k * rcP x k % 10007
def rcR (x : Nat) : Nat → Nat
  | 0 => 1
  | k + 1 => if 10005 / 2 ^ k % 2 = 1 then rcR x k * rcP x k % 10007 else rcR x k
def rcp (x : Nat) : Nat := rcR x 14
/-- the same, quick to compute -/
def rcF : Nat → Nat → Nat → Nat → Nat
  | 0, r, _, _ => r
  | f + 1, r, q, e => rcF f (if e % 2 = 1 then r * q % 10007 else r) (q * q % 10007) (e / 2)
theorem rcF_eq {x : Nat} : ∀ f k, rcF f (rcR x k) (rcP x k) (10005 / 2 ^ k) = rcR x (k + f) := by
  intro f
  induction f with
  | zero => exact fun k => rfl
  | succ f ih =>
    intro k
    have := ih (k + 1)
    rw [show k + 1 + f = k + (f + 1) by omega, div_s] at this
    exact this
def chkB : Nat → Nat → Bool
  | 0, x => x == 0 || decide (10007 ≤ x) || (x * rcF 14 1 x 10005 % 10007 == 1)
  | d + 1, x => chkB d x && chkB d (x + 2 ^ d)
theorem chkB_all : chkB 14 0 = true := by decide +kernel
theorem chkB_at : ∀ d x y, chkB d x = true → x ≤ y → y < x + 2 ^ d → chkB 0 y = true := by
  intro d
  induction d with
  | zero =>
    intro x y h h1 h2
    have : (2 : Nat) ^ 0 = 1 := rfl
    obtain rfl : x = y := by omega
    exact h
  | succ d ih =>
    intro x y h h1 h2
    have e : (2 : Nat) ^ (d + 1) = 2 ^ d * 2 := Nat.pow_succ ..
    unfold chkB at h
    rw [Bool.and_eq_true] at h
    by_cases f : y < x + 2 ^ d
    · exact ih x y h.1 h1 f
    · exact ih (x + 2 ^ d) y h.2 (by omega) (by omega)
theorem rcp_ok {x : Nat} (h0 : 0 < x) (h1 : x < 10007) : x * rcp x % 10007 = 1 := by
  have h := chkB_at 14 0 x chkB_all (by omega) (by
    have : (2 : Nat) ^ 14 = 16384 := rfl
    omega)
  unfold chkB at h
  have e : rcF 14 1 x 10005 = rcp x := by
    have := rcF_eq (x := x) 14 0
    rw [Nat.pow_zero, Nat.div_one, Nat.zero_add] at this
    exact this
  rw [e] at h
  simp only [Bool.or_eq_true, beq_iff_eq, decide_eq_true_eq] at h
  omega
theorem rcP_lt {x : Nat} (h : x < 10007) : ∀ k, rcP x k < 10007 := by
  intro k
  cases k with
  | zero => exact h
  | succ k => exact mlt _
theorem rcR_lt {x : Nat} : ∀ k, rcR x k < 10007 := by
  intro k
  induction k with
  | zero => exact (by decide : 1 < 10007)
  | succ k ih =>
    unfold rcR
    by_cases e : 10005 / 2 ^ k % 2 = 1
    · rw [if_pos e]; exact mlt _
    · rw [if_neg e]; exact ih
theorem rcp_lt {x : Nat} : rcp x < 10007 := rcR_lt 14
theorem rcp_pos {x : Nat} (h0 : 0 < x) (h1 : x < 10007) : 0 < rcp x := by
  have := rcp_ok h0 h1
  rcases Nat.eq_zero_or_pos (rcp x) with e | e
  · rw [e] at this
    simp at this
  · exact e
theorem ex_pos : ∀ k, k < 14 → 0 < 10005 / 2 ^ k := by decide
section RC
variable {Γ : zSh} {σ : zSt} {x : Nat}
theorem s_rcp (h : x < 10007) : f_X6_reciprocal Γ (nI x) σ = some (nI (rcp x), σ) := by
  unfold f_X6_reciprocal
  rw [L1, L10005]
  refine (lb1_of (loop_for (fun k => (nI (rcR x k), nI (rcP x k), nI (10005 / 2 ^ k), σ)) (nI (rcp x), σ) 14 (by rw [Nat.pow_zero, Nat.div_one]; rfl) (by unfold FUEL; omega) ?_ ?_)).trans rfl
  · intro k hk
    have e0 := ex_pos k hk
    have e1 : 10005 / 2 ^ k ≤ 10005 := Nat.div_le_self _ _
    have e2 := pmul (rcR_lt (x := x) k) (rcP_lt h k)
    have e3 := pmul (rcP_lt h k) (rcP_lt h k)
    have e4 := div_s (c := 10005) (k := k)
    have e5 : rcR x (k + 1) = if 10005 / 2 ^ k % 2 = 1 then rcR x k * rcP x k % 10007 else rcR x k := rfl
    have e6 : rcP x (k + 1) = rcP x k * rcP x k % 10007 := rfl
    show f_X6_reciprocal_B8 _ _ _ _ _ = _
    unfold f_X6_reciprocal_B8
    dsimp only
    rw [e5, e6, e4]
    generalize 10005 / 2 ^ k = z at *
    rw [L0, ile_f e0 (by omega), L1, and_1 (by omega)]
    by_cases e : z % 2 = 1
    · rw [ieq_t e, if_pos e, pk_mul, L10007, c_rmI (by omega) (by omega) (by omega)]
      unfold f_X6_reciprocal_B8_L27
      rw [pk_mul, L10007, c_rmI (by omega) (by omega) (by omega), L1, shr_n (by omega) (by omega), Nat.pow_one]
    · rw [ieq_f e (by omega) (by omega), if_neg e]
      unfold f_X6_reciprocal_B8_L27
      rw [pk_mul, L10007, c_rmI (by omega) (by omega) (by omega), L1, shr_n (by omega) (by omega), Nat.pow_one]
  · show f_X6_reciprocal_B8 _ _ _ _ _ = _
    unfold f_X6_reciprocal_B8
    rw [show (10005 : Nat) / 2 ^ 14 = 0 from rfl, L0, ile_t (by omega) (by omega)]
    rfl
end RC
/-- a basis: how many rows, their words, pivots, vectors, echelon rows, parts -/
abbrev Bs := Nat × (Nat → Nat) × (Nat → Nat) × (Nat → Nat → Nat) × (Nat → Nat → Nat) × (Nat → Nat → Nat)
def up {α : Type} (f : Nat → α) (k : Nat) (v : α) : Nat → α := fun j => if j = k then v else f j
theorem up_at {α : Type} {f : Nat → α} {k : Nat} {v : α} : up f k v k = v := if_pos rfl
theorem up_ne {α : Type} {f : Nat → α} {k j : Nat} {v : α} (h : j ≠ k) : up f k v j = f j := if_neg h
/-- what the first k rows leave of a vector, and the parts they give -/
def rd (B : Bs) (v : Nat → Nat) : Nat → (Nat → Nat) × (Nat → Nat)
  | 0 => (v, fun _ => 0)
  | k + 1 => if (rd B v k).1 (B.2.2.1 k) = 0 then rd B v k else (fun j => ((rd B v k).1 j + (10007 - (rd B v k).1 (B.2.2.1 k)) * B.2.2.2.2.1 k j) % 10007, fun j => ((rd B v k).2 j + (rd B v k).1 (B.2.2.1 k) * B.2.2.2.2.2 k j) % 10007)
/-- the first index below w that is not 0; w: none -/
def fnz (f : Nat → Nat) : Nat → Nat
  | 0 => 0
  | w + 1 => if fnz f w < w then fnz f w else if f w = 0 then w + 1 else w
theorem fnz_le {f : Nat → Nat} : ∀ w, fnz f w ≤ w := by
  intro w
  induction w with
  | zero => exact Nat.le_refl _
  | succ w ih =>
    unfold fnz
    by_cases e : fnz f w < w
    · rw [if_pos e]; omega
    · rw [if_neg e]
      by_cases e2 : f w = 0
      · rw [if_pos e2]; exact Nat.le_refl _
      · rw [if_neg e2]; omega
theorem fnz_spec {f : Nat → Nat} : ∀ w, (∀ j, j < fnz f w → f j = 0) ∧ (fnz f w < w → f (fnz f w) ≠ 0) := by
  intro w
  induction w with
  | zero => exact ⟨fun j h => absurd h (Nat.not_lt_zero j), fun h => absurd h (Nat.lt_irrefl 0)⟩
  | succ w ih =>
    have hl := fnz_le (f := f) w
    unfold fnz
    by_cases e : fnz f w < w
    · rw [if_pos e]; exact ⟨ih.1, fun _ => ih.2 e⟩
    · have e1 : fnz f w = w := by omega
      rw [if_neg e]
      rw [e1] at ih
      by_cases e2 : f w = 0
      · rw [if_pos e2]
        refine ⟨fun j h => ?_, fun h => absurd h (Nat.lt_irrefl _)⟩
        by_cases e3 : j = w
        · rw [e3]; exact e2
        · exact ih.1 j (by omega)
      · rw [if_neg e2]
        exact ⟨ih.1, fun _ => e2⟩
theorem fnz_of {f : Nat → Nat} {w i : Nat} (hi : i ≤ w) (h1 : ∀ j, j < i → f j = 0) (h2 : i < w → f i ≠ 0) : fnz f w = i := by
  obtain ⟨a, b⟩ := fnz_spec (f := f) w
  have c := fnz_le (f := f) w
  rcases Nat.lt_trichotomy (fnz f w) i with e | e | e
  · exact absurd (h1 _ e) (b (by omega))
  · exact e
  · exact absurd (a _ e) (h2 (by omega))
/-- a vector placed -/
def plc (w : Nat) (B : Bs) (v : Nat → Nat) (word : Nat) : Bs :=
  if fnz (rd B v B.1).1 w = w then B else
  (B.1 + 1, up B.2.1 B.1 word, up B.2.2.1 B.1 (fnz (rd B v B.1).1 w), up B.2.2.2.1 B.1 v,
    up B.2.2.2.2.1 B.1 (fun j => (rd B v B.1).1 j * rcp ((rd B v B.1).1 (fnz (rd B v B.1).1 w)) % 10007),
    up B.2.2.2.2.2 B.1 (fun j => if j = B.1 then rcp ((rd B v B.1).1 (fnz (rd B v B.1).1 w)) else (rd B v B.1).2 j * (10007 - rcp ((rd B v B.1).1 (fnz (rd B v B.1).1 w))) % 10007))
/-- the coordinates that are told -/
def cod (w : Nat) (B : Bs) (v : Nat → Nat) : Nat → Nat := if fnz (rd B v B.1).1 w = w then (rd B v B.1).2 else fun j => if j = B.1 then 1 else 0
def bs0 : Bs := (0, fun _ => 0, fun _ => 0, fun _ _ => 0, fun _ _ => 0, fun _ _ => 0)
/-- after t placings behind the first -/
def exl (A : Au) : Nat → Bs
  | 0 => plc A.1 bs0 A.2.1 0
  | t + 1 => if t / 2 < (exl A t).1 then plc A.1 (exl A t) (stpA A (t % 2) ((exl A t).2.2.2.1 (t / 2))) (2 * (exl A t).2.1 (t / 2) + 1 + t % 2) else exl A t
theorem expl_ex (A : Au) : ∃ B, B = exl A 48 := ⟨_, rfl⟩
noncomputable def expl (A : Au) : Bs := Classical.choose (expl_ex A)
theorem expl_eq {A : Au} : expl A = exl A 48 := Classical.choose_spec (expl_ex A)
/-- what holds of a basis of width w -/
def bI (w : Nat) (B : Bs) : Prop := (∀ k, k < B.1 → B.2.2.1 k < w ∧ B.2.2.2.2.1 k (B.2.2.1 k) = 1 ∧ (∀ i, i < k → B.2.2.2.2.1 k (B.2.2.1 i) = 0)) ∧ (∀ k j, k < B.1 → j < w → B.2.2.2.1 k j < 10007) ∧ (∀ k j, k < B.1 → B.2.2.2.2.1 k j < 10007 ∧ B.2.2.2.2.2 k j < 10007 ∧ (k < j → B.2.2.2.2.2 k j = 0))
theorem rd_lt {w : Nat} {B : Bs} (h : bI w B) {v : Nat → Nat} (hv : ∀ j, j < w → v j < 10007) : ∀ k, k ≤ B.1 → (∀ j, j < w → (rd B v k).1 j < 10007) ∧ ∀ j, (rd B v k).2 j < 10007 ∧ (k ≤ j → (rd B v k).2 j = 0) := by
  intro k
  induction k with
  | zero => exact fun _ => ⟨hv, fun j => ⟨(by show 0 < 10007; omega), fun _ => rfl⟩⟩
  | succ k ih =>
    intro hk
    have i := ih (by omega)
    unfold rd
    by_cases e : (rd B v k).1 (B.2.2.1 k) = 0
    · rw [if_pos e]
      exact ⟨i.1, fun j => ⟨(i.2 j).1, fun hj => (i.2 j).2 (by omega)⟩⟩
    · rw [if_neg e]
      refine ⟨fun j _ => mlt _, fun j => ⟨mlt _, fun hj => ?_⟩⟩
      show ((rd B v k).2 j + _ * B.2.2.2.2.2 k j) % 10007 = 0
      rw [(i.2 j).2 (by omega), (h.2.2 k j (by omega)).2.2 (by omega), Nat.mul_zero]
/-- the rows taken leave 0 at their pivots -/
theorem rd_pv {w : Nat} {B : Bs} (h : bI w B) {v : Nat → Nat} (hv : ∀ j, j < w → v j < 10007) : ∀ k, k ≤ B.1 → ∀ i, i < k → (rd B v k).1 (B.2.2.1 i) = 0 := by
  intro k
  induction k with
  | zero => exact fun _ i hi => absurd hi (Nat.not_lt_zero i)
  | succ k ih =>
    intro hk i hi
    have hp := h.1 k (by omega)
    unfold rd
    by_cases e : (rd B v k).1 (B.2.2.1 k) = 0
    · rw [if_pos e]
      by_cases e2 : i = k
      · rw [e2]; exact e
      · exact ih (by omega) i (by omega)
    · rw [if_neg e]
      show ((rd B v k).1 (B.2.2.1 i) + (10007 - (rd B v k).1 (B.2.2.1 k)) * B.2.2.2.2.1 k (B.2.2.1 i)) % 10007 = 0
      by_cases e2 : i = k
      · subst e2
        have := (rd_lt h hv i (by omega)).1 _ hp.1
        rw [hp.2.1, Nat.mul_one]
        omega
      · rw [hp.2.2 i (by omega), Nat.mul_zero, ih (by omega) i (by omega)]
theorem plc_I {w : Nat} {B : Bs} (h : bI w B) {v : Nat → Nat} (hv : ∀ j, j < w → v j < 10007) {word : Nat} : bI w (plc w B v word) := by
  unfold plc
  by_cases e : fnz (rd B v B.1).1 w = w
  · rw [if_pos e]; exact h
  · rw [if_neg e]
    obtain ⟨n1, n2⟩ := fnz_spec (f := (rd B v B.1).1) w
    have n3 := fnz_le (f := (rd B v B.1).1) w
    have hr := rd_lt h hv B.1 (Nat.le_refl _)
    have hp := rd_pv h hv B.1 (Nat.le_refl _)
    generalize fnz (rd B v B.1).1 w = a at *
    have ha : a < w := by omega
    have hx0 : 0 < (rd B v B.1).1 a := Nat.pos_of_ne_zero (n2 ha)
    have hx1 := hr.1 a ha
    have ho := rcp_ok hx0 hx1
    have hl := rcp_lt (x := (rd B v B.1).1 a)
    refine ⟨fun k hk => ?_, fun k j hk hj => ?_, fun k j hk => ?_⟩
    · have hk' : k < B.1 + 1 := hk
      by_cases e2 : k = B.1
      · subst e2
        dsimp only
        rw [up_at, up_at]
        refine ⟨ha, ho, fun i hi => ?_⟩
        rw [up_ne (by omega), hp i hi, Nat.zero_mul]
      · dsimp only
        rw [up_ne e2, up_ne e2]
        refine ⟨(h.1 k (by omega)).1, (h.1 k (by omega)).2.1, fun i hi => ?_⟩
        rw [up_ne (by omega)]
        exact (h.1 k (by omega)).2.2 i hi
    · have hk' : k < B.1 + 1 := hk
      dsimp only
      by_cases e2 : k = B.1
      · rw [e2, up_at]; exact hv j hj
      · rw [up_ne e2]; exact h.2.1 k j (by omega) hj
    · have hk' : k < B.1 + 1 := hk
      dsimp only
      by_cases e2 : k = B.1
      · rw [e2, up_at, up_at]
        refine ⟨mlt _, ?_, fun hj => ?_⟩
        · by_cases e3 : j = B.1
          · rw [if_pos e3]; exact hl
          · rw [if_neg e3]; exact mlt _
        · rw [if_neg (by omega), (hr.2 j).2 (by omega), Nat.zero_mul]
      · rw [up_ne e2, up_ne e2]; exact h.2.2 k j (by omega)
theorem bs0_I {w : Nat} : bI w bs0 := ⟨fun k h => absurd h (Nat.not_lt_zero k), fun k j h => absurd h (Nat.not_lt_zero k), fun k j h => absurd h (Nat.not_lt_zero k)⟩
/-- distinct numbers below w are no more than w -/
theorem pigeon : ∀ (w c : Nat) (f : Nat → Nat), (∀ i, i < c → f i < w) → (∀ i j, i < j → j < c → f i ≠ f j) → c ≤ w := by
  intro w
  induction w with
  | zero =>
    intro c f h _
    rcases Nat.eq_zero_or_pos c with e | e
    · omega
    · exact absurd (h 0 e) (Nat.not_lt_zero _)
  | succ w ih =>
    intro c f h hd
    rcases Nat.eq_zero_or_pos c with e | e
    · omega
    · -- the value w is taken by at most one, which is put last
      by_cases hex : ∃ i, i < c ∧ f i = w
      · obtain ⟨i, hi, fi⟩ := hex
        have := ih (c - 1) (fun j => if j = i then f (c - 1) else f j) (fun j hj => ?_) (fun a b hab hb => ?_)
        · omega
        · show (if j = i then _ else _) < w
          by_cases e1 : j = i
          · rw [if_pos e1]
            have h1 := h (c - 1) (by omega)
            have h2 : f i ≠ f (c - 1) := hd i (c - 1) (by omega) (by omega)
            omega
          · rw [if_neg e1]
            have h1 := h j (by omega)
            have h2 : f j ≠ f i := by
              rcases Nat.lt_or_ge j i with g | g
              · exact hd j i g hi
              · exact fun q => hd i j (by omega) (by omega) q.symm
            omega
        · show (if a = i then _ else _) ≠ if b = i then _ else _
          by_cases e1 : a = i
          · rw [if_pos e1, if_neg (by omega)]
            exact fun q => hd b (c - 1) (by omega) (by omega) q.symm
          · rw [if_neg e1]
            by_cases e2 : b = i
            · rw [if_pos e2]; exact hd a (c - 1) (by omega) (by omega)
            · rw [if_neg e2]; exact hd a b hab (by omega)
      · have := ih c f (fun i hi => by
          have h1 := h i hi
          have h2 : f i ≠ w := fun q => hex ⟨i, hi, q⟩
          omega) hd
        omega
theorem bI_le {w : Nat} {B : Bs} (h : bI w B) : B.1 ≤ w := by
  refine pigeon w B.1 B.2.2.1 (fun i hi => (h.1 i hi).1) (fun i j hij hj e => ?_)
  have h1 := (h.1 j hj).2.1
  have h2 := (h.1 j hj).2.2 i hij
  rw [e] at h2
  omega
theorem exl_I {A : Au} (ok : okA A) : ∀ t, bI A.1 (exl A t) := by
  intro t
  induction t with
  | zero => exact plc_I bs0_I (fun j hj => (ok j hj).1)
  | succ t ih =>
    unfold exl
    by_cases e : t / 2 < (exl A t).1
    · rw [if_pos e]; exact plc_I ih (fun j _ => stpA_lt)
    · rw [if_neg e]; exact ih
