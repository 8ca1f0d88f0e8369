/-! ===== words and series ===== -/
abbrev FW : Type := List (Fin 2)
/-- the letters of a word's code, the last one first -/
def lw (c : Nat) : FW := if c ≤ 1 then [] else ⟨c % 2, Nat.mod_lt _ (Nat.succ_pos 1)⟩ :: lw (c / 2)
termination_by c
decreasing_by omega
theorem lw_low {c : Nat} (h : c ≤ 1) : lw c = [] := by
  rw [lw, if_pos h]
theorem lw_hi {c : Nat} (h : 2 ≤ c) : lw c = ⟨c % 2, Nat.mod_lt _ (Nat.succ_pos 1)⟩ :: lw (c / 2) := by
  rw [lw, if_neg (by omega)]
theorem lw_up {c : Nat} {l : Fin 2} (h : 1 ≤ c) : lw (2 * c + l.val) = l :: lw c := by
  have hl := l.isLt
  rw [lw_hi (by omega), show (2 * c + l.val) / 2 = c by omega]
  congr 1
  exact Fin.ext (by show (2 * c + l.val) % 2 = l.val; omega)
/-- every word has a code -/
theorem lw_all : ∀ w : FW, ∃ c, 1 ≤ c ∧ lw c = w := by
  intro w
  induction w with
  | nil => exact ⟨1, Nat.le_refl 1, lw_low (Nat.le_refl 1)⟩
  | cons l w ih =>
    obtain ⟨c, h1, h2⟩ := ih
    refine ⟨2 * c + l.val, by omega, ?_⟩
    rw [lw_up h1, h2]
/-- the vector behind a word -/
def vv (A : Au) : FW → Nat → FK
  | [] => fun i => fc (A.2.1 i)
  | l :: w => fun j => fs A.1 (fun i => vv A w i * fc (A.2.2.2 l.val i j))
theorem vv_n {A : Au} {i : Nat} : vv A [] i = fc (A.2.1 i) := rfl
theorem vv_c {A : Au} {l : Fin 2} {w : FW} {j : Nat} : vv A (l :: w) j = fs A.1 (fun i => vv A w i * fc (A.2.2.2 l.val i j)) := rfl
/-- the weight of a word -/
def ww (A : Au) (w : FW) : FK := fs A.1 (fun i => vv A w i * fc (A.2.2.1 i))
theorem fc_stpA {A : Au} {l j : Nat} {v : Nat → Nat} : fc (stpA A l v j) = fs A.1 (fun i => fc (v i) * fc (A.2.2.2 l i j)) := by
  unfold stpA
  rw [fc_mod, fc_nsum]
  exact fs_c (fun i _ => fc_mul)
theorem fc_wtA {A : Au} {v : Nat → Nat} : fc (wtA A v) = fs A.1 (fun i => fc (v i) * fc (A.2.2.1 i)) := by
  unfold wtA
  rw [fc_mod, fc_nsum]
  exact fs_c (fun i _ => fc_mul)
theorem vv_vW {A : Au} : ∀ (n c : Nat), c ≤ n → ∀ i, vv A (lw c) i = fc (vW A A.2.1 c i) := by
  intro n
  induction n with
  | zero =>
    intro c hc i
    rw [lw_low (by omega), vW_low (by omega)]
    rfl
  | succ n ih =>
    intro c hc i
    by_cases e : c ≤ 1
    · rw [lw_low e, vW_low e]
      rfl
    · rw [lw_hi (by omega), vW_hi (by omega), vv_c, fc_stpA]
      exact fs_c (fun k _ => by rw [ih (c / 2) (by omega)])
theorem ww_code {A : Au} {c : Nat} : fc (wtA A (vW A A.2.1 c)) = ww A (lw c) := by
  rw [fc_wtA]
  exact fs_c (fun i _ => by rw [vv_vW c c (Nat.le_refl c)])
/-- a word behind another -/
theorem vW_app {A : Au} : ∀ (n c : Nat), c ≤ n → ∀ (d : Nat) (i : Nat), fc (vW A (vW A A.2.1 d) c i) = vv A (lw c ++ lw d) i := by
  intro n
  induction n with
  | zero =>
    intro c hc d i
    rw [lw_low (by omega), vW_low (by omega), List.nil_append, vv_vW d d (Nat.le_refl d)]
  | succ n ih =>
    intro c hc d i
    by_cases e : c ≤ 1
    · rw [lw_low e, vW_low e, List.nil_append, vv_vW d d (Nat.le_refl d)]
    · rw [lw_hi (by omega), vW_hi (by omega), List.cons_append, vv_c, fc_stpA]
      exact fs_c (fun k _ => by rw [ih (c / 2) (by omega)])
def sEq (A B : Au) : Prop := ∀ w, ww A w = ww B w
theorem sEq.sm {A B : Au} (h : sEq A B) : sEq B A := fun w => (h w).symm
theorem sEq.tr {A B C : Au} (h : sEq A B) (k : sEq B C) : sEq A C := fun w => (h w).trans (k w)
theorem sEq.rf {A : Au} : sEq A A := fun _ => rfl
section SER
variable {X Y A B : Au}
/-- sums -/
theorem vv_sum : ∀ (w : FW) (i : Nat), i < X.1 + Y.1 → vv (sumA X Y) w i = if i < X.1 then vv X w i else vv Y w (i - X.1) := by
  intro w
  induction w with
  | nil =>
    intro i _
    rw [vv_n, vv_n, vv_n]
    show fc (if i < X.1 then _ else _) = _
    by_cases e : i < X.1
    · rw [if_pos e, if_pos e]
    · rw [if_neg e, if_neg e]
  | cons l w ih =>
    intro j hj
    have hM : ∀ i, (sumA X Y).2.2.2 l.val i j = if i < X.1 ∧ j < X.1 then X.2.2.2 l.val i j else if X.1 ≤ i ∧ X.1 ≤ j then Y.2.2.2 l.val (i - X.1) (j - X.1) else 0 := fun i => rfl
    rw [vv_c, show (sumA X Y).1 = X.1 + Y.1 from rfl, fs_cut]
    by_cases e : j < X.1
    · rw [if_pos e, fs_0 (n := Y.1) (fun i hi => ?_), vv_c]
      · rw [fs_c (g := fun i => vv X w i * fc (X.2.2.2 l.val i j)) (fun i hi => ?_)]
        · grind
        · rw [ih i (by omega), if_pos hi, hM, if_pos ⟨hi, e⟩]
      · rw [hM, if_neg (by omega), if_neg (by omega), fc_0]
        grind
    · rw [if_neg e, fs_0 (n := X.1) (fun i hi => ?_), vv_c]
      · rw [fs_c (n := Y.1) (g := fun i => vv Y w i * fc (Y.2.2.2 l.val i (j - X.1))) (fun i hi => ?_)]
        · grind
        · rw [ih (X.1 + i) (by omega), if_neg (by omega), hM, if_neg (by omega), if_pos (by omega), show X.1 + i - X.1 = i by omega]
      · rw [hM, if_neg (by omega), if_neg (by omega), fc_0]
        grind
theorem ww_sum {w : FW} : ww (sumA X Y) w = ww X w + ww Y w := by
  have hF : ∀ i, (sumA X Y).2.2.1 i = if i < X.1 then X.2.2.1 i else Y.2.2.1 (i - X.1) := fun i => rfl
  unfold ww
  rw [show (sumA X Y).1 = X.1 + Y.1 from rfl, fs_cut]
  congr 1
  · exact fs_c (fun i hi => by rw [vv_sum w i (by omega), if_pos hi, hF, if_pos hi])
  · exact fs_c (fun i hi => by rw [vv_sum w _ (by omega), if_neg (by omega), hF, if_neg (by omega), show X.1 + i - X.1 = i by omega])
/-- differences -/
theorem vv_dif (okY : okA Y) : ∀ (w : FW) (i : Nat), i < X.1 + Y.1 → vv (difA X Y) w i = if i < X.1 then vv X w i else - vv Y w (i - X.1) := by
  intro w
  induction w with
  | nil =>
    intro i hi
    rw [vv_n, vv_n, vv_n]
    show fc (if i < X.1 then _ else _) = _
    by_cases e : i < X.1
    · rw [if_pos e, if_pos e]
    · rw [if_neg e, if_neg e, fc_mod, fc_sub (Nat.le_of_lt (okY _ (by omega)).1)]
  | cons l w ih =>
    intro j hj
    have hM : ∀ i, (difA X Y).2.2.2 l.val i j = if i < X.1 ∧ j < X.1 then X.2.2.2 l.val i j else if X.1 ≤ i ∧ X.1 ≤ j then Y.2.2.2 l.val (i - X.1) (j - X.1) else 0 := fun i => rfl
    rw [vv_c, show (difA X Y).1 = X.1 + Y.1 from rfl, fs_cut]
    by_cases e : j < X.1
    · rw [if_pos e, fs_0 (n := Y.1) (fun i hi => ?_), vv_c]
      · rw [fs_c (g := fun i => vv X w i * fc (X.2.2.2 l.val i j)) (fun i hi => ?_)]
        · grind
        · rw [ih i (by omega), if_pos hi, hM, if_pos ⟨hi, e⟩]
      · rw [hM, if_neg (by omega), if_neg (by omega), fc_0]
        grind
    · rw [if_neg e, fs_0 (n := X.1) (fun i hi => ?_), vv_c]
      · rw [fs_c (n := Y.1) (g := fun i => (-1) * (vv Y w i * fc (Y.2.2.2 l.val i (j - X.1)))) (fun i hi => ?_), fs_mul]
        · grind
        · rw [ih (X.1 + i) (by omega), if_neg (by omega), hM, if_neg (by omega), if_pos (by omega), show X.1 + i - X.1 = i by omega]
          grind
      · rw [hM, if_neg (by omega), if_neg (by omega), fc_0]
        grind
theorem ww_dif (okY : okA Y) {w : FW} : ww (difA X Y) w = ww X w - ww Y w := by
  have hF : ∀ i, (difA X Y).2.2.1 i = if i < X.1 then X.2.2.1 i else Y.2.2.1 (i - X.1) := fun i => rfl
  unfold ww
  rw [show (difA X Y).1 = X.1 + Y.1 from rfl, fs_cut, fs_c (n := X.1) (g := fun i => vv X w i * fc (X.2.2.1 i)) (fun i hi => by rw [vv_dif okY w i (by omega), if_pos hi, hF, if_pos hi]), fs_c (n := Y.1) (g := fun i => (-1) * (vv Y w i * fc (Y.2.2.1 i))) (fun i hi => by rw [vv_dif okY w _ (by omega), if_neg (by omega), hF, if_neg (by omega), show X.1 + i - X.1 = i by omega]; grind), fs_mul]
  grind
/-- products of weights -/
theorem vv_had : ∀ (w : FW) (s : Nat), s < X.1 * Y.1 → vv (hadA X Y) w s = vv X w (s / Y.1) * vv Y w (s % Y.1) := by
  intro w
  induction w with
  | nil =>
    intro s _
    rw [vv_n, vv_n, vv_n]
    show fc (_ % 10007) = _
    rw [fc_mod, fc_mul]
  | cons l w ih =>
    intro t ht
    rw [vv_c, vv_c, vv_c, show (hadA X Y).1 = X.1 * Y.1 from rfl, ← fs_fs, ← fs_prod (f := fun i j => (vv X w i * vv Y w j) * (fc (X.2.2.2 l.val i (t / Y.1)) * fc (Y.2.2.2 l.val j (t % Y.1))))]
    refine fs_c (fun s hs => ?_)
    rw [ih s hs]
    show _ * fc (_ % 10007) = _
    rw [fc_mod, fc_mul]
theorem ww_had {w : FW} : ww (hadA X Y) w = ww X w * ww Y w := by
  unfold ww
  rw [← fs_fs, ← fs_prod (f := fun i j => (vv X w i * vv Y w j) * (fc (X.2.2.1 i) * fc (Y.2.2.1 j)))]
  refine fs_c (fun s hs => ?_)
  rw [vv_had w s hs]
  show _ * fc (_ % 10007) = _
  rw [fc_mod, fc_mul]
/-- sums over the ways to cut a word -/
def sp (f : FW → FW → FK) : FW → FK
  | [] => f [] []
  | l :: w => f [] (l :: w) + sp (fun v u => f (l :: v) u) w
theorem sp_add : ∀ (w : FW) {f g : FW → FW → FK}, sp (fun v u => f v u + g v u) w = sp f w + sp g w := by
  intro w
  induction w with
  | nil => intro f g; rfl
  | cons l w ih =>
    intro f g
    show (f [] (l :: w) + g [] (l :: w)) + sp (fun v u => f (l :: v) u + g (l :: v) u) w = (f [] (l :: w) + sp (fun v u => f (l :: v) u) w) + (g [] (l :: w) + sp (fun v u => g (l :: v) u) w)
    rw [ih]
    grind
theorem sp_c {f g : FW → FW → FK} (h : ∀ v u, f v u = g v u) {w : FW} : sp f w = sp g w := by
  rw [show f = g from funext fun v => funext fun u => h v u]
theorem sp_fs {n : Nat} : ∀ (w : FW) {f : Nat → FW → FW → FK}, fs n (fun i => sp (f i) w) = sp (fun v u => fs n (fun i => f i v u)) w := by
  intro w
  induction w with
  | nil => intro f; rfl
  | cons l w ih =>
    intro f
    show fs n (fun i => f i [] (l :: w) + sp (fun v u => f i (l :: v) u) w) = fs n (fun i => f i [] (l :: w)) + sp (fun v u => fs n (fun i => f i (l :: v) u)) w
    rw [fs_add, ih (f := fun i v u => f i (l :: v) u)]
theorem sp_mulr {a : FK} : ∀ (w : FW) {f : FW → FW → FK}, sp (fun v u => f v u * a) w = sp f w * a := by
  intro w
  induction w with
  | nil => intro f; rfl
  | cons l w ih =>
    intro f
    show f [] (l :: w) * a + sp (fun v u => f (l :: v) u * a) w = (f [] (l :: w) + sp (fun v u => f (l :: v) u) w) * a
    rw [ih]
    grind
theorem fc_outA {l i : Nat} : fc (outA X l i) = fs X.1 (fun j => fc (X.2.2.2 l i j) * fc (X.2.2.1 j)) := by
  unfold outA
  rw [fc_mod, fc_nsum]
  exact fs_c (fun i _ => fc_mul)
theorem ww_cons {l : Fin 2} {w : FW} : ww X (l :: w) = fs X.1 (fun i => vv X w i * fc (outA X l.val i)) := by
  unfold ww
  rw [fs_c (g := fun j => fs X.1 (fun i => vv X w i * fc (X.2.2.2 l.val i j) * fc (X.2.2.1 j))) (fun j _ => by rw [vv_c, ← fs_mulr]), fs_swap]
  refine fs_c (fun i _ => ?_)
  rw [fc_outA, ← fs_mul]
  exact fs_c (fun j _ => by grind)
/-- the product by cutting -/
theorem vv_cau : ∀ (w : FW) (i : Nat), i < X.1 + Y.1 → vv (cauA X Y) w i = if i < X.1 then vv X w i else sp (fun v u => ww X u * vv Y v (i - X.1)) w := by
  intro w
  induction w with
  | nil =>
    intro i hi
    rw [vv_n, vv_n]
    show fc (if i < X.1 then _ else _) = if i < X.1 then _ else ww X [] * vv Y [] (i - X.1)
    by_cases e : i < X.1
    · rw [if_pos e, if_pos e]
    · rw [if_neg e, if_neg e, fc_mod, fc_mul, fc_wtA, vv_n]
      show _ * fs X.1 (fun i => vv X [] i * _) = _
      show _ * ww X [] = _
      grind
  | cons l w ih =>
    intro j hj
    have hM : ∀ i, (cauA X Y).2.2.2 l.val i j = if i < X.1 ∧ j < X.1 then X.2.2.2 l.val i j else if X.1 ≤ i ∧ X.1 ≤ j then Y.2.2.2 l.val (i - X.1) (j - X.1) else if i < X.1 then outA X l.val i * Y.2.1 (j - X.1) % 10007 else 0 := fun i => rfl
    rw [vv_c, show (cauA X Y).1 = X.1 + Y.1 from rfl, fs_cut]
    by_cases e : j < X.1
    · rw [if_pos e, fs_0 (n := Y.1) (fun i hi => ?_), vv_c]
      · rw [fs_c (g := fun i => vv X w i * fc (X.2.2.2 l.val i j)) (fun i hi => ?_)]
        · grind
        · rw [ih i (by omega), if_pos hi, hM, if_pos ⟨hi, e⟩]
      · rw [hM, if_neg (by omega), if_neg (by omega), if_neg (by omega), fc_0]
        grind
    · rw [if_neg e]
      have h1 : fs X.1 (fun i => vv (cauA X Y) w i * fc ((cauA X Y).2.2.2 l.val i j)) = ww X (l :: w) * vv Y [] (j - X.1) := by
        rw [ww_cons, ← fs_mulr]
        refine fs_c (fun i hi => ?_)
        rw [ih i (by omega), if_pos hi, hM, if_neg (by omega), if_neg (by omega), if_pos hi, fc_mod, fc_mul, vv_n]
        grind
      have h2 : fs Y.1 (fun i => vv (cauA X Y) w (X.1 + i) * fc ((cauA X Y).2.2.2 l.val (X.1 + i) j)) = sp (fun v u => ww X u * vv Y (l :: v) (j - X.1)) w := by
        rw [fs_c (g := fun i => sp (fun v u => ww X u * vv Y v i * fc (Y.2.2.2 l.val i (j - X.1))) w) (fun i hi => ?_), sp_fs]
        · refine sp_c (fun v u => ?_)
          rw [vv_c, ← fs_mul]
          exact fs_c (fun i _ => by grind)
        · rw [ih (X.1 + i) (by omega), if_neg (by omega), hM, if_neg (by omega), if_pos (by omega), show X.1 + i - X.1 = i by omega, sp_mulr]
      rw [h1, h2]
      rfl
theorem ww_cau {w : FW} : ww (cauA X Y) w = ww X w * ww Y [] + sp (fun v u => ww X u * ww Y v) w := by
  have hF : ∀ i, (cauA X Y).2.2.1 i = if i < X.1 then X.2.2.1 i * wtA Y Y.2.1 % 10007 else Y.2.2.1 (i - X.1) := fun i => rfl
  have hY : fc (wtA Y Y.2.1) = ww Y [] := fc_wtA
  unfold ww
  rw [show (cauA X Y).1 = X.1 + Y.1 from rfl, fs_cut]
  congr 1
  · rw [← fs_mulr]
    refine fs_c (fun i hi => ?_)
    rw [vv_cau w i (by omega), if_pos hi, hF, if_pos hi, fc_mod, fc_mul, hY]
    show _ = _ * ww Y []
    grind
  · rw [fs_c (g := fun i => sp (fun v u => ww X u * vv Y v i * fc (Y.2.2.1 i)) w) (fun i hi => ?_), sp_fs]
    · refine sp_c (fun v u => ?_)
      show _ = ww X u * _
      rw [← fs_mul]
      exact fs_c (fun i _ => by grind)
    · rw [vv_cau w _ (by omega), if_neg (by omega), hF, if_neg (by omega), show X.1 + i - X.1 = i by omega, sp_mulr]
/-- a factor -/
theorem vv_sca {c : Nat} : ∀ (w : FW) (i : Nat), vv (scaA X c) w i = vv X w i * fc c := by
  intro w
  induction w with
  | nil =>
    intro i
    rw [vv_n, vv_n]
    show fc (_ % 10007) = _
    rw [fc_mod, fc_mul]
  | cons l w ih =>
    intro j
    rw [vv_c, vv_c, ← fs_mulr]
    refine fs_c (fun i _ => ?_)
    rw [ih]
    show _ * fc (X.2.2.2 l.val i j) = _
    grind
theorem ww_sca {c : Nat} {w : FW} : ww (scaA X c) w = ww X w * fc c := by
  unfold ww
  rw [← fs_mulr]
  refine fs_c (fun i _ => ?_)
  rw [vv_sca]
  show _ * fc (X.2.2.1 i) = _
  grind
/-- the reversal -/
theorem vv_pair (A : Au) (l : Fin 2) (u v : FW) : fs A.1 (fun i => vv A (l :: u) i * vv (revA A) v i) = fs A.1 (fun i => vv A u i * vv (revA A) (l :: v) i) := by
  rw [fs_c (g := fun j => fs A.1 (fun i => vv A u i * fc (A.2.2.2 l.val i j) * vv (revA A) v j)) (fun j _ => by rw [vv_c, ← fs_mulr]), fs_swap]
  refine fs_c (fun i _ => ?_)
  rw [vv_c, ← fs_mul]
  refine fs_c (fun j _ => ?_)
  show vv A u i * fc (A.2.2.2 l.val i j) * vv (revA A) v j = vv A u i * (vv (revA A) v j * fc (A.2.2.2 l.val i j))
  grind
/-- a word's vector against a word's vector backwards -/
theorem vv_join (A : Au) : ∀ (v u : FW), fs A.1 (fun i => vv A u i * vv (revA A) v i) = ww A (v.reverse ++ u) := by
  intro v
  induction v with
  | nil => intro u; rfl
  | cons l v ih =>
    intro u
    rw [← vv_pair, ih, List.reverse_cons, List.append_assoc]
    rfl
theorem ww_rev {w : FW} : ww (revA A) w = ww A w.reverse := by
  have h := vv_join A w []
  rw [List.append_nil] at h
  rw [← h]
  unfold ww
  refine fs_c (fun i _ => ?_)
  show vv (revA A) w i * fc (A.2.1 i) = fc (A.2.1 i) * _
  grind
theorem rev_rev : revA (revA A) = A := rfl
theorem sEq.rev (h : sEq A B) : sEq (revA A) (revA B) := fun w => by rw [ww_rev, ww_rev, h]
end SER
/-- sums over all words of a length -/
def TS (f : FW → FK) : Nat → FK
  | 0 => f []
  | k + 1 => TS (fun w => f (0 :: w)) k + TS (fun w => f (1 :: w)) k
theorem TS_add : ∀ (k : Nat) {f g : FW → FK}, TS (fun w => f w + g w) k = TS f k + TS g k := by
  intro k
  induction k with
  | zero => intro f g; rfl
  | succ k ih =>
    intro f g
    show TS (fun w => f (0 :: w) + g (0 :: w)) k + TS (fun w => f (1 :: w) + g (1 :: w)) k = (TS (fun w => f (0 :: w)) k + TS (fun w => f (1 :: w)) k) + (TS (fun w => g (0 :: w)) k + TS (fun w => g (1 :: w)) k)
    rw [ih, ih]
    grind
theorem TS_mulr {a : FK} : ∀ (k : Nat) {f : FW → FK}, TS (fun w => f w * a) k = TS f k * a := by
  intro k
  induction k with
  | zero => intro f; rfl
  | succ k ih =>
    intro f
    show TS (fun w => f (0 :: w) * a) k + TS (fun w => f (1 :: w) * a) k = (TS (fun w => f (0 :: w)) k + TS (fun w => f (1 :: w)) k) * a
    rw [ih, ih]
    grind
theorem TS_0 : ∀ (k : Nat), TS (fun _ => 0) k = 0 := by
  intro k
  induction k with
  | zero => rfl
  | succ k ih =>
    show TS (fun _ => 0) k + TS (fun _ => 0) k = 0
    rw [ih]
    rfl
theorem TS_fs (n : Nat) : ∀ {f : Nat → FW → FK} {k : Nat}, TS (fun w => fs n (fun i => f i w)) k = fs n (fun i => TS (f i) k) := by
  induction n with
  | zero => intro f k; exact TS_0 k
  | succ n ih =>
    intro f k
    rw [fs_s, ← ih, ← TS_add]
    rfl
theorem TS_step {A : Au} : ∀ (k : Nat) (j : Nat), fc (ttV A k j) = TS (fun w => vv A w j) k := by
  intro k
  induction k with
  | zero => intro j; rfl
  | succ k ih =>
    intro j
    show fc (stpB A 2 (ttV A k) j) = TS (fun w => vv A (0 :: w) j) k + TS (fun w => vv A (1 :: w) j) k
    unfold stpB
    rw [if_pos rfl, fc_mod, fc_nsum, show (fun w => vv A (0 :: w) j) = (fun w => fs A.1 (fun i => vv A w i * fc (A.2.2.2 0 i j))) from rfl, show (fun w => vv A (1 :: w) j) = (fun w => fs A.1 (fun i => vv A w i * fc (A.2.2.2 1 i j))) from rfl, TS_fs A.1 (f := fun i w => vv A w i * fc (A.2.2.2 0 i j)), TS_fs A.1 (f := fun i w => vv A w i * fc (A.2.2.2 1 i j)), ← fs_add]
    refine fs_c (fun i _ => ?_)
    rw [fc_mul, fc_add, ih, TS_mulr k (f := fun w => vv A w i), TS_mulr k (f := fun w => vv A w i)]
    grind
theorem ww_tot {A : Au} {k : Nat} : fc (wtA A (ttV A k)) = TS (ww A) k := by
  rw [fc_wtA, show ww A = (fun w => fs A.1 (fun i => vv A w i * fc (A.2.2.1 i))) from rfl, TS_fs A.1 (f := fun i w => vv A w i * fc (A.2.2.1 i))]
  refine fs_c (fun i _ => ?_)
  rw [TS_step, TS_mulr k (f := fun w => vv A w i)]
/-- what a series alone gives -/
theorem sEq.tot {A B : Au} (h : sEq A B) {k : Nat} : wtA A (ttV A k) = wtA B (ttV B k) := fc_inj wtA_lt wtA_lt (by rw [ww_tot, ww_tot, show ww A = ww B from funext h])
theorem sEq.wt {A B : Au} (h : sEq A B) {c : Nat} : wtA A (vW A A.2.1 c) = wtA B (vW B B.2.1 c) := fc_inj wtA_lt wtA_lt (by rw [ww_code, ww_code, h])
theorem ww_app {A : Au} {c d : Nat} : fc (wtA A (vW A (vW A A.2.1 d) c)) = ww A (lw c ++ lw d) := by
  rw [fc_wtA]
  exact fs_c (fun i _ => by rw [vW_app c c (Nat.le_refl c)])
theorem sEq.hk {A B : Au} (h : sEq A B) : hkG A = hkG B := funext fun i => funext fun j => fc_inj wtA_lt wtA_lt (by
  show fc (wtA A (vW A (vW A A.2.1 (i + 1)) (j + 1))) = fc (wtA B (vW B (vW B B.2.1 (i + 1)) (j + 1)))
  rw [ww_app, ww_app, h])
