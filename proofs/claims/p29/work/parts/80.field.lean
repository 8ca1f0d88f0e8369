/-! ===== the field of 10007 elements; sums over it ===== -/
abbrev FK : Type := Fin 10007
def fc (x : Nat) : FK := Fin.ofNat 10007 x
theorem fc_val {x : Nat} : (fc x).val = x % 10007 := rfl
theorem fc_add {x y : Nat} : fc (x + y) = fc x + fc y := Fin.ext (by rw [Fin.val_add, fc_val, fc_val, fc_val, Nat.add_mod])
theorem fc_mul {x y : Nat} : fc (x * y) = fc x * fc y := Fin.ext (by rw [Fin.val_mul, fc_val, fc_val, fc_val, Nat.mul_mod])
theorem fc_mod {x : Nat} : fc (x % 10007) = fc x := Fin.ext (by rw [fc_val, fc_val, Nat.mod_mod])
theorem fc_0 : fc 0 = 0 := rfl
theorem fc_1 : fc 1 = 1 := rfl
theorem fc_inj {x y : Nat} (hx : x < 10007) (hy : y < 10007) (h : fc x = fc y) : x = y := by
  have := congrArg Fin.val h
  rw [fc_val, fc_val, Nat.mod_eq_of_lt hx, Nat.mod_eq_of_lt hy] at this
  exact this
theorem fc_z {x : Nat} (hx : x < 10007) : fc x = 0 ↔ x = 0 := ⟨fun h => fc_inj hx (by decide) (h.trans fc_0.symm), fun h => by rw [h]; rfl⟩
theorem fc_sub {y : Nat} (h : y ≤ 10007) : fc (10007 - y) = - fc y := by
  have e : fc (10007 - y) + fc y = 0 := by
    rw [← fc_add, Nat.sub_add_cancel h]
    rfl
  grind
theorem fc_rcp {x : Nat} (h0 : 0 < x) (h1 : x < 10007) : fc x * fc (rcp x) = 1 := by
  rw [← fc_mul]
  refine Fin.ext ?_
  rw [fc_val]
  exact rcp_ok h0 h1
theorem fc_of {a : FK} : fc a.val = a := Fin.ext (by rw [fc_val]; exact Nat.mod_eq_of_lt a.isLt)
theorem fk_inv {a : FK} (h : a ≠ 0) : ∃ b, a * b = 1 := by
  have h0 : 0 < a.val := by
    rcases Nat.eq_zero_or_pos a.val with q | q
    · refine absurd ?_ h
      rw [← fc_of (a := a), q]
      rfl
    · exact q
  have := fc_rcp h0 a.isLt
  rw [fc_of] at this
  exact ⟨_, this⟩
theorem fk_mul {a b : FK} (h : a * b = 0) (ha : a ≠ 0) : b = 0 := by
  obtain ⟨x, hx⟩ := fk_inv ha
  have : x * (a * b) = (a * x) * b := by grind
  rw [h, hx] at this
  grind
def fs (n : Nat) (f : Nat → FK) : FK := match n with
  | 0 => 0
  | n + 1 => fs n f + f n
theorem fs_s {n : Nat} {f : Nat → FK} : fs (n + 1) f = fs n f + f n := rfl
theorem fs_c {n : Nat} {f g : Nat → FK} (h : ∀ i, i < n → f i = g i) : fs n f = fs n g := by
  induction n with
  | zero => rfl
  | succ n ih => rw [fs_s, fs_s, ih (fun i hi => h i (by omega)), h n (by omega)]
theorem fs_0 {n : Nat} {f : Nat → FK} (h : ∀ i, i < n → f i = 0) : fs n f = 0 := by
  induction n with
  | zero => rfl
  | succ n ih =>
    rw [fs_s, ih (fun i hi => h i (by omega)), h n (by omega)]
    rfl
theorem fs_add {n : Nat} {f g : Nat → FK} : fs n (fun i => f i + g i) = fs n f + fs n g := by
  induction n with
  | zero => rfl
  | succ n ih =>
    rw [fs_s, fs_s, fs_s, ih]
    grind
theorem fs_mul {n : Nat} {f : Nat → FK} {a : FK} : fs n (fun i => a * f i) = a * fs n f := by
  induction n with
  | zero =>
    show (0 : FK) = a * 0
    grind
  | succ n ih =>
    rw [fs_s, fs_s, ih]
    grind
theorem fs_mulr {n : Nat} {f : Nat → FK} {a : FK} : fs n (fun i => f i * a) = fs n f * a := by
  rw [show (fun i => f i * a) = fun i => a * f i from funext fun i => by grind, fs_mul]
  grind
theorem fs_sub {n : Nat} {f g : Nat → FK} : fs n (fun i => f i - g i) = fs n f - fs n g := by
  induction n with
  | zero => rfl
  | succ n ih =>
    rw [fs_s, fs_s, fs_s, ih]
    grind
theorem fs_swap {n m : Nat} {f : Nat → Nat → FK} : fs n (fun i => fs m (fun j => f i j)) = fs m (fun j => fs n (fun i => f i j)) := by
  induction n with
  | zero => exact (fs_0 (fun i _ => rfl)).symm
  | succ n ih =>
    rw [fs_s, ih, ← fs_add]
    rfl
theorem fs_cut {n m : Nat} {f : Nat → FK} : fs (n + m) f = fs n f + fs m (fun j => f (n + j)) := by
  induction m with
  | zero =>
    show fs n f = fs n f + 0
    grind
  | succ m ih =>
    rw [show n + (m + 1) = (n + m) + 1 by omega, fs_s, fs_s, ih]
    grind
theorem fs_prod {n m : Nat} {f : Nat → Nat → FK} : fs (n * m) (fun s => f (s / m) (s % m)) = fs n (fun i => fs m (fun j => f i j)) := by
  induction n with
  | zero =>
    rw [Nat.zero_mul]
    rfl
  | succ n ih =>
    rw [Nat.succ_mul, fs_cut, ih, fs_s]
    congr 1
    refine fs_c (fun j hj => ?_)
    have hm : 0 < m := by omega
    rw [show (n * m + j) / m = n by rw [Nat.add_comm, Nat.add_mul_div_right _ _ hm, Nat.div_eq_of_lt hj, Nat.zero_add], show (n * m + j) % m = j by rw [Nat.add_comm, Nat.add_mul_mod_self_right, Nat.mod_eq_of_lt hj]]
theorem fs_one {n k : Nat} {a : Nat → FK} : fs n (fun i => if i = k then a i else 0) = if k < n then a k else 0 := by
  induction n with
  | zero => rw [if_neg (by omega)]; rfl
  | succ n ih =>
    rw [fs_s, ih]
    by_cases e : n = k
    · rw [if_pos e, if_neg (by omega), if_pos (by omega), e]
      grind
    · rw [if_neg e]
      by_cases e2 : k < n
      · rw [if_pos e2, if_pos (by omega)]
        grind
      · rw [if_neg e2, if_neg (by omega)]
        rfl
theorem fs_at {n k : Nat} {a : Nat → FK} {f : Nat → FK} (hk : k < n) (h : ∀ i, i < n → f i = if i = k then a i else 0) : fs n f = a k := by
  rw [fs_c h, fs_one, if_pos hk]
theorem fc_nsum {n : Nat} {f : Nat → Nat} : fc (nsum n f) = fs n (fun i => fc (f i)) := by
  induction n with
  | zero => rfl
  | succ n ih =>
    show fc (nsum n f + f n) = _
    rw [fc_add, ih]
    rfl
theorem fs_ext {n m : Nat} {f : Nat → FK} (h : n ≤ m) (h0 : ∀ i, n ≤ i → i < m → f i = 0) : fs m f = fs n f := by
  obtain ⟨k, rfl⟩ : ∃ k, m = n + k := ⟨m - n, by omega⟩
  rw [fs_cut, fs_0 (n := k) (fun i hi => h0 _ (by omega) (by omega))]
  grind
/-- a sum of products of two kinds of sums -/
theorem fs_fs {n m : Nat} {a c : Nat → FK} {b d : Nat → FK} : fs n (fun i => fs m (fun j => (a i * b j) * (c i * d j))) = fs n (fun i => a i * c i) * fs m (fun j => b j * d j) := by
  rw [← fs_mulr]
  refine fs_c (fun i _ => ?_)
  rw [← fs_mul]
  exact fs_c (fun j _ => by grind)
